/-! ArrayList: n things, in an array of cap places; before the first it is the JDK's empty one -/
def keeps (h h1 : GH) (P : Nat → Prop) : Prop := ∀ (q : Nat) (g : gE), h q = some g → ¬ P q → h1 q = some g
theorem keeps.rf {h : GH} {P : Nat → Prop} : keeps h h P := fun _ _ h _ => h
theorem keeps.tr {h h1 h2 : GH} {P : Nat → Prop} (e1 : keeps h h1 P) (e2 : keeps h1 h2 P) : keeps h h2 P := fun q g h9 hn => e2 q g (e1 q g h9 hn) hn
theorem keeps.mono {h h1 : GH} {P Q : Nat → Prop} (e1 : keeps h h1 P) (hPQ : ∀ q, P q → Q q) : keeps h h1 Q := fun q g h9 hn => e1 q g h9 fun z => hn (hPQ q z)
theorem keeps.put {h : GH} {a : Nat} {g : gE} {P : Nat → Prop} (ha : P a ∨ h a = none) : keeps h (hput h a g) P := fun q g1 h9 hn => by
  have e : q ≠ a := fun e => by
    subst e
    rcases ha with z | z
    · exact hn z
    · rw [z] at h9; cases h9
  rw [hput_n _ _ e]
  exact h9
theorem fr2.keeps {h h1 : GH} {r a : Nat} (e : fr2 h h1 r a) : keeps h h1 (fun q => q = r ∨ q = a) := fun q g h9 hn => by
  rw [e q (fun z => hn (Or.inl z)) (fun z => hn (Or.inr z))]
  exact h9
def IsList (D : DD) (h : GH) (l e cap n : Nat) (f : Nat → Option Nat) : Prop := (∃ m : Int, h l = some (gObj 9 [gI m, gR (some e), gI n])) ∧ ((e = cad D 4 ∧ cap = 0 ∧ n = 0) ∨ (h e = some (gArrR 5 cap f) ∧ e ≠ cad D 4 ∧ n ≤ cap ∧ 10 ≤ cap)) ∧ cap ≤ 18
theorem IsList.kp {D : DD} {h h1 : GH} {l e cap n : Nat} {f : Nat → Option Nat} {P : Nat → Prop} (hl : IsList D h l e cap n f) (hk : keeps h h1 P) (hn1 : ¬ P l) (hn2 : ∀ f1 : Nat → Option Nat, h e = some (gArrR 5 cap f1) → ¬ P e) : IsList D h1 l e cap n f := by
  obtain ⟨⟨m, g1⟩, g2, g3⟩ := hl
  refine ⟨⟨m, hk _ _ g1 hn1⟩, ?_, g3⟩
  rcases g2 with g2 | ⟨g4, g5⟩
  · exact Or.inl g2
  · exact Or.inr ⟨hk _ _ g4 (hn2 f g4), g5⟩
/-- Preconditions.checkIndex, within -/
theorem pre_check (D : DD) {h : GH} {i n : Int} {r : Option Nat} (hi : 0 ≤ i ∧ i < n) (hn : n < 2147483648) : GMet D yJ3_checkIndex_8e157 cJ3_checkIndex_8e157 3 (some .int) [] 1 0 0 [gI i, gI n, gR r] h (pr (gI i) (fun h1 => h1 = h)) := by
  refine GMet.intro RJ3 rfl (by decide) (gcats rfl) (Nat.le_of_ble_eq_true rfl) fun K KX S => ?_
  show K 0 [some _, some _, some _] [] _ 0 0
  refine k_iload_n S dJ3_checkIndex_8e157_0 rfl ?_
  refine k_if_lt (tgt := 9) S dJ3_checkIndex_8e157_1 (by decide) (by omega) (fun c1 => ?_) (fun c1 => ?_)
  · omega
  · refine k_iload_n S dJ3_checkIndex_8e157_4 rfl ?_
    refine k_iload_n S dJ3_checkIndex_8e157_5 rfl ?_
    refine k_icmp_lt (tgt := 16) S dJ3_checkIndex_8e157_6 (by decide) (by omega) (by omega) (fun c6 => ?_) (fun c6 => ?_)
    · refine k_iload_n S dJ3_checkIndex_8e157_16 rfl ?_
      exact k_ireturn S dJ3_checkIndex_8e157_17 ⟨rfl, rfl⟩ (by omega) (by omega)
    · omega
/-- Objects.checkIndex, within -/
theorem obj_check (D : DD) {h : GH} {i n : Int} (hi : 0 ≤ i ∧ i < n) (hn : n < 2147483648) : GMet D yJ15_checkIndex_7cf53 cJ15_checkIndex_7cf53 2 (some .int) [] 2 0 0 [gI i, gI n] h (pr (gI i) (fun h1 => h1 = h)) := by
  refine GMet.intro RJ15 rfl (by decide) (gcats rfl) (Nat.le_of_ble_eq_true rfl) fun K KX S => ?_
  show K 0 [some _, some _] [] _ 0 0
  refine k_iload_n S dJ15_checkIndex_7cf53_0 rfl ?_
  refine k_iload_n S dJ15_checkIndex_7cf53_1 rfl ?_
  refine k_null S dJ15_checkIndex_7cf53_2 ?_
  refine k_callS_r S dJ15_checkIndex_7cf53_3 s_J15_105 (pre_check D hi hn) (fun h3 hp3 => ?_) rfl rfl (by decide) (by omega) (by omega) (Nat.le_of_ble_eq_true rfl)
  rw [hp3]
  exact k_ireturn S dJ15_checkIndex_7cf53_6 ⟨rfl, rfl⟩ (by omega) (by omega)
/-- size() -/
theorem li_size (D : DD) {h : GH} {l e cap n : Nat} {f : Nat → Option Nat} (hl : IsList D h l e cap n f) : GMet D yJx4a65c_size_8abf5 cJx4a65c_size_8abf5 1 (some .int) [] 1 0 0 [gR (some l)] h (pr (gI n) (fun h1 => h1 = h)) := by
  obtain ⟨⟨m, h1⟩, h2, h3⟩ := id hl
  refine GMet.intro RJx4a65c rfl (by decide) (gcats rfl) (Nat.le_of_ble_eq_true rfl) fun K KX S => ?_
  show K 0 [some _] [] _ 0 0
  refine k_aload_n S dJx4a65c_size_8abf5_0 rfl ?_
  refine k_getf S dJx4a65c_size_8abf5_1 f_Jx4a65c_48 (by assumption) (by rfl) ?_
  exact k_ireturn S dJx4a65c_size_8abf5_4 ⟨rfl, rfl⟩ (by omega) (by omega)
/-- isEmpty() -/
theorem li_isEmpty (D : DD) {h : GH} {l e cap n : Nat} {f : Nat → Option Nat} (hl : IsList D h l e cap n f) : GMet D yJx4a65c_isEmpty_aae02 cJx4a65c_isEmpty_aae02 1 (some .boolean) [] 1 0 0 [gR (some l)] h (pr (gI (b01 (n = 0))) (fun h1 => h1 = h)) := by
  obtain ⟨⟨m, h1⟩, h2, h3⟩ := id hl
  refine GMet.intro RJx4a65c rfl (by decide) (gcats rfl) (Nat.le_of_ble_eq_true rfl) fun K KX S => ?_
  show K 0 [some _] [] _ 0 0
  refine k_aload_n S dJx4a65c_isEmpty_aae02_0 rfl ?_
  refine k_getf S dJx4a65c_isEmpty_aae02_1 f_Jx4a65c_48 (by assumption) (by rfl) ?_
  refine k_if_ne (tgt := 11) S dJx4a65c_isEmpty_aae02_4 (by decide) (by omega) (fun c4 => ?_) (fun c4 => ?_)
  · refine k_iconst S dJx4a65c_isEmpty_aae02_11 ?_
    exact k_zreturn S dJx4a65c_isEmpty_aae02_12 (by omega) ⟨by rw [b01_f (by omega)], rfl⟩ (by omega) (by omega)
  · refine k_iconst S dJx4a65c_isEmpty_aae02_7 ?_
    refine k_goto (tgt := 12) S dJx4a65c_isEmpty_aae02_8 (by decide) ?_
    exact k_zreturn S dJx4a65c_isEmpty_aae02_12 (by omega) ⟨by rw [b01_t (by omega)], rfl⟩ (by omega) (by omega)
theorem IsList.ar {D : DD} {h : GH} {l e cap n : Nat} {f : Nat → Option Nat} (hl : IsList D h l e cap n f) {i : Nat} (hi : i < n) : h e = some (gArrR 5 cap f) ∧ i < cap ∧ e ≠ cad D 4 ∧ n ≤ cap ∧ 10 ≤ cap := by
  rcases hl.2.1 with ⟨-, -, z⟩ | ⟨g1, g2, g3, g4⟩
  · omega
  · exact ⟨g1, by omega, g2, g3, g4⟩
theorem IsList.le {D : DD} {h : GH} {l e cap n : Nat} {f : Nat → Option Nat} (hl : IsList D h l e cap n f) : n ≤ cap ∧ cap ≤ 18 := by
  rcases hl.2.1 with ⟨-, z1, z⟩ | ⟨g1, g2, g3, g4⟩
  · exact ⟨by omega, hl.2.2⟩
  · exact ⟨g3, hl.2.2⟩
theorem IsList.ne {D : DD} {h : GH} {l e cap n : Nat} {f f1 : Nat → Option Nat} (hl : IsList D h l e cap n f) (he : h e = some (gArrR 5 cap f1)) : e ≠ l := fun z => by
  obtain ⟨⟨m, g1⟩, -⟩ := hl
  rw [← z, he] at g1
  cases g1
/-- elementData(i), within -/
theorem li_elem (D : DD) {h : GH} {l e cap n : Nat} {f : Nat → Option Nat} (hl : IsList D h l e cap n f) {i : Nat} (hi : i < n) : GMet D yJx4a65c_elementData_915e3 cJx4a65c_elementData_915e3 2 (some (.object "java/lang/Object")) [] 1 0 0 [gR (some l), gI i] h (pr (gR (f i)) (fun h1 => h1 = h)) := by
  obtain ⟨⟨m, h1⟩, h2, h3⟩ := id hl
  obtain ⟨g1, g2, -⟩ := hl.ar hi
  refine GMet.intro RJx4a65c rfl (by decide) (gcats rfl) (Nat.le_of_ble_eq_true rfl) fun K KX S => ?_
  show K 0 [some _, some _] [] _ 0 0
  refine k_aload_n S dJx4a65c_elementData_915e3_0 rfl ?_
  refine k_getf S dJx4a65c_elementData_915e3_1 f_Jx4a65c_9 (by assumption) (by rfl) ?_
  refine k_iload_n S dJx4a65c_elementData_915e3_4 rfl ?_
  refine k_aaload S dJx4a65c_elementData_915e3_5 (by assumption) (by omega) ?_
  exact k_areturn S dJx4a65c_elementData_915e3_6 (Or.inl ⟨_, rfl⟩) ⟨rfl, rfl⟩ (by omega) (by omega)
/-- get(i), within -/
theorem li_get (D : DD) {h : GH} {l e cap n : Nat} {f : Nat → Option Nat} (hl : IsList D h l e cap n f) {i : Int} (hi : 0 ≤ i ∧ i < n) : GMet D yJx4a65c_get_915e3 cJx4a65c_get_915e3 2 (some (.object "java/lang/Object")) [] 3 0 0 [gR (some l), gI i] h (pr (gR (f i.toNat)) (fun h1 => h1 = h)) := by
  obtain ⟨⟨m, h1⟩, h2, h3⟩ := id hl
  have hle := hl.le
  obtain ⟨k, rfl⟩ := Int.eq_ofNat_of_zero_le hi.1
  have ek : ((k : Nat) : Int).toNat = k := by omega
  rw [ek]
  refine GMet.intro RJx4a65c rfl (by decide) (gcats rfl) (Nat.le_of_ble_eq_true rfl) fun K KX S => ?_
  show K 0 [some _, some _] [] _ 0 0
  refine k_iload_n S dJx4a65c_get_915e3_0 rfl ?_
  refine k_aload_n S dJx4a65c_get_915e3_1 rfl ?_
  refine k_getf S dJx4a65c_get_915e3_2 f_Jx4a65c_48 (by assumption) (by rfl) ?_
  refine k_callS_r S dJx4a65c_get_915e3_5 s_Jx4a65c_118 (obj_check D hi (by omega)) (fun h5 hp5 => ?_) rfl rfl (by decide) (by omega) (by omega) (Nat.le_of_ble_eq_true rfl)
  rw [hp5]
  refine k_pop S dJx4a65c_get_915e3_8 ?_
  refine k_aload_n S dJx4a65c_get_915e3_9 rfl ?_
  refine k_iload_n S dJx4a65c_get_915e3_10 rfl ?_
  refine k_callV_r S dJx4a65c_get_915e3_11 v_Jx4a65c_123 (li_elem D hl (by omega)) (by assumption) (fun h11 hp11 => ?_) rfl rfl (by decide) (by omega) (by omega) (Nat.le_of_ble_eq_true rfl)
  rw [hp11]
  exact k_areturn S dJx4a65c_get_915e3_14 (Or.inl ⟨_, rfl⟩) ⟨rfl, rfl⟩ (by omega) (by omega)
/-- ArraysSupport.newLength of a short one -/
theorem new_len (D : DD) {h : GH} {x y z : Int} (hx : 0 ≤ x ∧ x ≤ 1000) (hy : 0 ≤ y ∧ y ≤ 1000) (hz : 1 ≤ z ∧ z ≤ 1000) : GMet D yJ8_newLength_cabcc cJ8_newLength_cabcc 4 (some .int) [] 2 0 0 [gI x, gI y, gI z] h (pr (gI (x + max y z)) (fun h1 => h1 = h)) := by
  refine GMet.intro RJ8 rfl (by decide) (gcats rfl) (Nat.le_of_ble_eq_true rfl) fun K KX S => ?_
  show K 0 [some _, some _, some _, none] [] _ 0 0
  refine k_iload_n S dJ8_newLength_cabcc_0 rfl ?_
  refine k_iload_n S dJ8_newLength_cabcc_1 rfl ?_
  refine k_iload_n S dJ8_newLength_cabcc_2 rfl ?_
  refine k_max S dJ8_newLength_cabcc_3 ml_J8_194 mm_max_static mm_init mm_max_code (by omega) (by omega) (by decide) (by omega) (by omega) ?_ (Nat.le_of_ble_eq_true rfl)
  refine k_iadd S dJ8_newLength_cabcc_6 ?_
  refine k_istore_n S dJ8_newLength_cabcc_7 (by decide) ?_
  refine k_iconst S dJ8_newLength_cabcc_8 ?_
  refine k_iload_n S dJ8_newLength_cabcc_9 rfl ?_
  refine k_icmp_ge (tgt := 21) S dJ8_newLength_cabcc_10 (by decide) (by omega) (by omega) (fun c10 => ?_) (fun c10 => ?_)
  · omega
  · refine k_iload_n S dJ8_newLength_cabcc_13 rfl ?_
    refine k_ldcI (v := 2147483639) S dJ8_newLength_cabcc_14 co_200 ?_
    refine k_icmp_gt (tgt := 21) S dJ8_newLength_cabcc_16 (by decide) (by omega) (by omega) (fun c16 => ?_) (fun c16 => ?_)
    · omega
    · refine k_iload_n S dJ8_newLength_cabcc_19 rfl ?_
      exact k_ireturn S dJ8_newLength_cabcc_20 ⟨rfl, rfl⟩ (by omega) (by omega)
/-- Arrays.copyOf(a, n, Object[].class), longer -/
theorem copy3 (D : DD) {h : GH} {q0 n0 n1 : Nat} {f0 : Nat → Option Nat} (hh0 : h q0 = some (gArrR 5 n0 f0)) (hle : n0 ≤ n1 ∧ n1 ≤ 1000) {ci : Nat} {C : String} {T : u_T} {N : Nat} (hc : gcl[ci]? = some (C, T, N)) (hca : Cond.castable C "java/lang/Object" ∈ kwl) (hel : ∀ i y : Nat, i < n0 → f0 i = some y → ∃ fs : List GV, h y = some (gObj ci fs)) : GMet D yJ7_copyOf_6403c cJ7_copyOf_6403c 4 (some (.array (.object "java/lang/Object"))) [] 2 1 1000 [gR (some q0), gI n1, gR (some (cad D 7))] h (pq (fun q h1 => h q = none ∧ dLo D ≤ q ∧ ∃ f1 : Nat → Option Nat, (∀ i, i < n0 → f1 i = f0 i) ∧ h1 = hput (hput h q (gArrR 5 n1 (fun _ => none))) q (gArrR 5 n1 f1))) := by
  refine GMet.intro RJ7 rfl (by decide) (gcats rfl) (Nat.le_of_ble_eq_true rfl) fun K KX S => ?_
  show K 0 [some _, some _, some _, none] [] _ 0 0
  refine k_aload_n S dJ7_copyOf_6403c_0 rfl ?_
  refine k_ldcM S dJ7_copyOf_6403c_1 cl_J7_110 ?_
  refine k_acmp_ne (tgt := 13) S dJ7_copyOf_6403c_3 (by decide) (fun c3 => ?_) (fun c3 => ?_)
  · exact absurd rfl c3
  · refine k_iload_n S dJ7_copyOf_6403c_6 rfl ?_
    refine k_newq S dJ7_copyOf_6403c_7 (by omega) cl_J7_2 ao_obj (by omega) (by omega) (fun q7 n7 l7 => ?_)
    refine k_goto (tgt := 24) S dJ7_copyOf_6403c_10 (by decide) ?_
    refine k_astore_n S dJ7_copyOf_6403c_24 (by decide) ?_
    refine k_aload_n S dJ7_copyOf_6403c_25 rfl ?_
    refine k_iconst S dJ7_copyOf_6403c_26 ?_
    refine k_aload_n S dJ7_copyOf_6403c_27 rfl ?_
    refine k_iconst S dJ7_copyOf_6403c_28 ?_
    refine k_aload_n S dJ7_copyOf_6403c_29 rfl ?_
    refine k_alen S dJ7_copyOf_6403c_30 (by rw [hput_n _ _ (fun e => by subst e; rw [n7] at hh0; cases hh0)]; exact hh0) (by decide) ?_
    refine k_iload_n S dJ7_copyOf_6403c_31 rfl ?_
    refine k_min S dJ7_copyOf_6403c_32 ml_J7_304 mm_min_static mm_init mm_min_code (by omega) (by omega) (by decide) (by omega) (by omega) ?_ (Nat.le_of_ble_eq_true rfl)
    have hq : q0 ≠ q7 := fun e => by subst e; rw [n7] at hh0; cases hh0
    have ex : min (n0 : Int) (n1 : Int) = ((n0 : Nat) : Int) := by omega
    rw [ex]
    refine k_copyq (ci := ci) (C := C) S dJ7_copyOf_6403c_35 ml_J7_150 sy_native sy_static sy_init hca (by rw [hput_n _ _ hq]; exact hh0) (hput_s _ _ _) (by omega) (by omega) (by omega) (by omega) (by omega) hc (fun i hi y hy => ?_) (by decide) ?_ (Nat.le_of_ble_eq_true rfl)
    · obtain ⟨fs, hfs⟩ := hel i y (by omega) (by simpa using hy)
      exact ⟨fs, by rw [hput_n _ _ (fun e => by subst e; rw [n7] at hfs; cases hfs)]; exact hfs⟩
    · refine k_aload_n S dJ7_copyOf_6403c_38 rfl ?_
      refine k_areturn S dJ7_copyOf_6403c_39 (Or.inr ⟨_, rfl⟩) ?_ (by omega) (by omega)
      refine ⟨q7, rfl, n7, l7, va_cpy f0 (fun _ => none) 0 0 n0, fun i hi => ?_, ?_⟩
      · rw [pk_cpy_in (by omega) (by omega)]
        congr 1
        omega
      · have e9 : ((n1 : Nat) : Int).toNat = n1 := by omega
        have e8 : ((n0 : Nat) : Int).toNat = n0 := by omega
        rw [e9, e8]
        rfl
/-- Arrays.copyOf(a, n), longer -/
theorem copy2 (D : DD) {h : GH} {q0 n0 n1 : Nat} {f0 : Nat → Option Nat} (hh0 : h q0 = some (gArrR 5 n0 f0)) (hle : n0 ≤ n1 ∧ n1 ≤ 1000) {ci : Nat} {C : String} {T : u_T} {N : Nat} (hc : gcl[ci]? = some (C, T, N)) (hca : Cond.castable C "java/lang/Object" ∈ kwl) (hel : ∀ i y : Nat, i < n0 → f0 i = some y → ∃ fs : List GV, h y = some (gObj ci fs)) : GMet D yJ7_copyOf_1904c cJ7_copyOf_1904c 2 (some (.array (.object "java/lang/Object"))) [] 3 1 1000 [gR (some q0), gI n1] h (pq (fun q h1 => h q = none ∧ dLo D ≤ q ∧ ∃ f1 : Nat → Option Nat, (∀ i, i < n0 → f1 i = f0 i) ∧ h1 = hput (hput h q (gArrR 5 n1 (fun _ => none))) q (gArrR 5 n1 f1))) := by
  refine GMet.intro RJ7 rfl (by decide) (gcats rfl) (Nat.le_of_ble_eq_true rfl) fun K KX S => ?_
  show K 0 [some _, some _] [] _ 0 0
  refine k_aload_n S dJ7_copyOf_1904c_0 rfl ?_
  refine k_iload_n S dJ7_copyOf_1904c_1 rfl ?_
  refine k_aload_n S dJ7_copyOf_1904c_2 rfl ?_
  refine k_getC S dJ7_copyOf_1904c_3 ml_J7_86 gc_declares gc_selects gc_instanceMethod gc_native hh0 (by decide) ?_ (Nat.le_of_ble_eq_true rfl)
  refine k_callS_q S dJ7_copyOf_1904c_6 s_J7_300 (copy3 D hh0 hle hc hca hel) (fun q6 h6 hp6 => ?_) rfl rfl (by decide) (by omega) (by omega) (Nat.le_of_ble_eq_true rfl)
  exact k_areturn S dJ7_copyOf_1904c_9 (Or.inr ⟨_, rfl⟩) ⟨q6, rfl, hp6⟩ (by omega) (by omega)
/-- grow(n + 1) of a full one -/
theorem li_growI (D : DD) {h : GH} {l e cap n : Nat} {f : Nat → Option Nat} (hl : IsList D h l e cap n f) {ci : Nat} {C : String} {T : u_T} {N : Nat} (hc : gcl[ci]? = some (C, T, N)) (hca : Cond.castable C "java/lang/Object" ∈ kwl) (hel : ∀ i : Nat, i < n → ∃ (y : Nat) (fs : List GV), f i = some y ∧ h y = some (gObj ci fs)) (hfull : n = cap) (hn : n ≤ 11) : GMet D yJx4a65c_grow_92f84 cJx4a65c_grow_92f84 4 (some (.array (.object "java/lang/Object"))) [] 5 1 1000 [gR (some l), gI (n + 1)] h (pq (fun q h1 => h q = none ∧ dLo D ≤ q ∧ q ≠ cad D 4 ∧ (∃ (f1 : Nat → Option Nat) (cap1 : Nat), (∀ i, i < n → f1 i = f i) ∧ n < cap1 ∧ 10 ≤ cap1 ∧ cap1 ≤ 18 ∧ h1 q = some (gArrR 5 cap1 f1)) ∧ (∃ m : Int, h1 l = some (gObj 9 [gI m, gR (some q), gI n])) ∧ keeps h h1 (fun x => x = l))) := by
  obtain ⟨⟨m, h1⟩, h2, h3⟩ := id hl
  rcases h2 with ⟨rfl, rfl, rfl⟩ | ⟨g1, g2, g3, g4⟩
  · refine GMet.intro RJx4a65c rfl (by decide) (gcats rfl) (Nat.le_of_ble_eq_true rfl) fun K KX S => ?_
    show K 0 [some _, some _, none, none] [] _ 0 0
    refine k_cad S (fun hlo hdi => ?_)
    refine k_aload_n S dJx4a65c_grow_92f84_0 rfl ?_
    refine k_getf S dJx4a65c_grow_92f84_1 f_Jx4a65c_9 (by assumption) (by rfl) ?_
    refine k_alenE S dJx4a65c_grow_92f84_4 ?_
    refine k_istore_n S dJx4a65c_grow_92f84_5 (by decide) ?_
    refine k_iload_n S dJx4a65c_grow_92f84_6 rfl ?_
    refine k_if_gt (tgt := 20) S dJx4a65c_grow_92f84_7 (by decide) (by omega) (fun c7 => ?_) (fun c7 => ?_)
    · omega
    · refine k_aload_n S dJx4a65c_grow_92f84_10 rfl ?_
      refine k_getf S dJx4a65c_grow_92f84_11 f_Jx4a65c_9 (by assumption) (by rfl) ?_
      refine k_getsE S dJx4a65c_grow_92f84_14 m_Jx4a65c_39 ?_
      refine k_acmp_eq (tgt := 45) S dJx4a65c_grow_92f84_17 (by decide) (fun c17 => ?_) (fun c17 => ?_)
      · refine k_aload_n S dJx4a65c_grow_92f84_45 rfl ?_
        refine k_bipush S dJx4a65c_grow_92f84_46 ?_
        refine k_iload_n S dJx4a65c_grow_92f84_48 rfl ?_
        refine k_max S dJx4a65c_grow_92f84_49 ml_Jx4a65c_79 mm_max_static mm_init mm_max_code (by omega) (by omega) (by decide) (by omega) (by omega) ?_ (Nat.le_of_ble_eq_true rfl)
        refine k_newq S dJx4a65c_grow_92f84_52 (by omega) cl_Jx4a65c_7 ao_obj (by omega) (by omega) (fun q52 n52 l52 => ?_)
        refine k_dup_x1 S dJx4a65c_grow_92f84_55 ?_
        refine k_putf S dJx4a65c_grow_92f84_56 f_Jx4a65c_9 (by rw [hput_n _ _ (fun e => by subst e; rw [n52] at h1; cases h1)]; exact h1) (gfit_arr _ _) (Nat.le_of_ble_eq_true rfl) ?_
        refine k_areturn S dJx4a65c_grow_92f84_59 (Or.inr ⟨_, rfl⟩) ?_ (by omega) (by omega)
        have hql : q52 ≠ l := fun e => by subst e; rw [n52] at h1; cases h1
        refine ⟨q52, rfl, n52, l52, fun e => hlo (by rw [← e]; exact l52), ⟨fun _ => none, 10, fun i hi => absurd hi (by omega), by omega, by omega, by omega, ?_⟩, ⟨m, hput_s _ _ _⟩, ?_⟩
        · rw [hput_n _ _ hql]
          exact hput_s _ _ _
        · exact keeps.tr (keeps.put (Or.inr n52)) (keeps.put (Or.inl rfl))
      · exact absurd rfl c17
  · refine GMet.intro RJx4a65c rfl (by decide) (gcats rfl) (Nat.le_of_ble_eq_true rfl) fun K KX S => ?_
    show K 0 [some _, some _, none, none] [] _ 0 0
    refine k_cad S (fun hlo hdi => ?_)
    refine k_aload_n S dJx4a65c_grow_92f84_0 rfl ?_
    refine k_getf S dJx4a65c_grow_92f84_1 f_Jx4a65c_9 (by assumption) (by rfl) ?_
    refine k_alen S dJx4a65c_grow_92f84_4 (by assumption) (by decide) ?_
    refine k_istore_n S dJx4a65c_grow_92f84_5 (by decide) ?_
    refine k_iload_n S dJx4a65c_grow_92f84_6 rfl ?_
    refine k_if_gt (tgt := 20) S dJx4a65c_grow_92f84_7 (by decide) (by omega) (fun c7 => ?_) (fun c7 => ?_)
    · have eb : bShr ((cap : Nat) : Int) 1 = ((cap / 2 ^ 1 : Nat) : Int) := bShr_nat (k := 1) (by omega) (by omega)
      have e1 : cap / 2 ^ 1 = cap / 2 := rfl
      refine k_iload_n S dJx4a65c_grow_92f84_20 rfl ?_
      refine k_iload_n S dJx4a65c_grow_92f84_21 rfl ?_
      refine k_iload_n S dJx4a65c_grow_92f84_22 rfl ?_
      refine k_isub S dJx4a65c_grow_92f84_23 ?_
      refine k_iload_n S dJx4a65c_grow_92f84_24 rfl ?_
      refine k_iconst S dJx4a65c_grow_92f84_25 ?_
      refine k_ishr S dJx4a65c_grow_92f84_26 ?_
      rw [eb, e1]
      refine k_callS_r S dJx4a65c_grow_92f84_27 s_Jx4a65c_73 (new_len D (by omega) (by omega) (by omega)) (fun h27 hp27 => ?_) rfl rfl (by decide) (by omega) (by omega) (Nat.le_of_ble_eq_true rfl)
      rw [hp27]
      refine k_istore_n S dJx4a65c_grow_92f84_30 (by decide) ?_
      have e2 : ((cap : Nat) : Int) + max ((n : Nat) + 1 - (cap : Nat) : Int) ((cap / 2 : Nat) : Int) = ((cap + cap / 2 : Nat) : Int) := by omega
      rw [e2]
      refine k_aload_n S dJx4a65c_grow_92f84_31 rfl ?_
      refine k_aload_n S dJx4a65c_grow_92f84_32 rfl ?_
      refine k_getf S dJx4a65c_grow_92f84_33 f_Jx4a65c_9 (by assumption) (by rfl) ?_
      refine k_iload_n S dJx4a65c_grow_92f84_36 rfl ?_
      refine k_callS_q S dJx4a65c_grow_92f84_37 s_Jx4a65c_66 (copy2 D (n1 := cap + cap / 2) g1 (by omega) hc hca (fun i y hi hy => by obtain ⟨y1, fs, e1, e3⟩ := hel i (by omega); rw [e1] at hy; cases hy; exact ⟨fs, e3⟩)) (fun q37 h37 hp37 => ?_) rfl rfl (by decide) (by omega) (by omega) (Nat.le_of_ble_eq_true rfl)
      obtain ⟨z1, z2, f1, z3, rfl⟩ := hp37
      have hql : q37 ≠ l := fun e => by subst e; rw [z1] at h1; cases h1
      refine k_dup_x1 S dJx4a65c_grow_92f84_40 ?_
      refine k_putf S dJx4a65c_grow_92f84_41 f_Jx4a65c_9 (by rw [hput_n _ _ (Ne.symm hql), hput_n _ _ (Ne.symm hql)]; exact h1) (gfit_arr _ _) (Nat.le_of_ble_eq_true rfl) ?_
      refine k_areturn S dJx4a65c_grow_92f84_44 (Or.inr ⟨_, rfl⟩) ?_ (by omega) (by omega)
      refine ⟨q37, rfl, z1, z2, fun e => hlo (by rw [← e]; exact z2), ⟨f1, cap + cap / 2, fun i hi => z3 i (by omega), by omega, by omega, by omega, ?_⟩, ⟨m, hput_s _ _ _⟩, ?_⟩
      · rw [hput_n _ _ hql]
        exact hput_s _ _ _
      · intro q g hq hn9
        have hqq : q ≠ q37 := fun e => by subst e; rw [z1] at hq; cases hq
        rw [hput_n _ _ hn9, hput_n _ _ hqq, hput_n _ _ hqq]
        exact hq
    · omega
/-- grow() of a full one -/
theorem li_grow (D : DD) {h : GH} {l e cap n : Nat} {f : Nat → Option Nat} (hl : IsList D h l e cap n f) {ci : Nat} {C : String} {T : u_T} {N : Nat} (hc : gcl[ci]? = some (C, T, N)) (hca : Cond.castable C "java/lang/Object" ∈ kwl) (hel : ∀ i : Nat, i < n → ∃ (y : Nat) (fs : List GV), f i = some y ∧ h y = some (gObj ci fs)) (hfull : n = cap) (hn : n ≤ 11) : GMet D yJx4a65c_grow_d5877 cJx4a65c_grow_d5877 1 (some (.array (.object "java/lang/Object"))) [] 6 1 1000 [gR (some l)] h (pq (fun q h1 => h q = none ∧ dLo D ≤ q ∧ q ≠ cad D 4 ∧ (∃ (f1 : Nat → Option Nat) (cap1 : Nat), (∀ i, i < n → f1 i = f i) ∧ n < cap1 ∧ 10 ≤ cap1 ∧ cap1 ≤ 18 ∧ h1 q = some (gArrR 5 cap1 f1)) ∧ (∃ m : Int, h1 l = some (gObj 9 [gI m, gR (some q), gI n])) ∧ keeps h h1 (fun x => x = l))) := by
  obtain ⟨⟨m, h1⟩, h2, h3⟩ := id hl
  refine GMet.intro RJx4a65c rfl (by decide) (gcats rfl) (Nat.le_of_ble_eq_true rfl) fun K KX S => ?_
  show K 0 [some _] [] _ 0 0
  refine k_aload_n S dJx4a65c_grow_d5877_0 rfl ?_
  refine k_aload_n S dJx4a65c_grow_d5877_1 rfl ?_
  refine k_getf S dJx4a65c_grow_d5877_2 f_Jx4a65c_48 (by assumption) (by rfl) ?_
  refine k_iconst S dJx4a65c_grow_d5877_5 ?_
  refine k_iadd S dJx4a65c_grow_d5877_6 ?_
  refine k_callV_q S dJx4a65c_grow_d5877_7 v_Jx4a65c_69 (li_growI D hl hc hca hel hfull hn) (by assumption) (fun q7 h7 hp7 => ?_) rfl rfl (by decide) (by omega) (by omega) (Nat.le_of_ble_eq_true rfl)
  exact k_areturn S dJx4a65c_grow_d5877_10 (Or.inr ⟨_, rfl⟩) ⟨q7, rfl, hp7⟩ (by omega) (by omega)
/-- add(v, elementData, size) -/
theorem li_add3 (D : DD) {h : GH} {l e cap n : Nat} {f : Nat → Option Nat} (hl : IsList D h l e cap n f) {ci : Nat} {C : String} {T : u_T} {N : Nat} (hc : gcl[ci]? = some (C, T, N)) (hca : Cond.castable C "java/lang/Object" ∈ kwl) (hel : ∀ i : Nat, i < n → ∃ (y : Nat) (fs : List GV), f i = some y ∧ h y = some (gObj ci fs)) {v : Nat} {fv : List GV} (hv : h v = some (gObj ci fv)) (hn : n ≤ 11) : GMet D yJx4a65c_add_72be8 cJx4a65c_add_72be8 4 none [] 7 1 1000 [gR (some l), gR (some v), gR (some e), gI n] h (pv (fun h1 => (∃ (e1 cap1 : Nat) (f1 : Nat → Option Nat), IsList D h1 l e1 cap1 (n + 1) f1 ∧ (∀ i, i < n → f1 i = f i) ∧ f1 n = some v ∧ (e1 = e ∨ h e1 = none)) ∧ keeps h h1 (fun x => x = l ∨ (x = e ∧ e ≠ cad D 4)))) := by
  obtain ⟨⟨m, h1⟩, h2, h3⟩ := id hl
  have hvl : v ≠ l ∨ ci = 9 := by
    by_cases z : v = l
    · subst z; rw [hv] at h1; cases h1; exact Or.inr rfl
    · exact Or.inl z
  have hle := hl.le
  by_cases hf : n = cap
  · refine GMet.intro RJx4a65c rfl (by decide) (gcats rfl) (Nat.le_of_ble_eq_true rfl) fun K KX S => ?_
    show K 0 [some _, some _, some _, some _] [] _ 0 0
    have ha2 : K 3 [some (gR (some l)), some (gR (some v)), some (gR (some e)), some (gI n)] [gI cap, gI n] h 0 0 := by
      refine k_icmp_ne (tgt := 11) S dJx4a65c_add_72be8_3 (by decide) (by omega) (by omega) (fun c3 => ?_) (fun c3 => ?_)
      · omega
      · refine k_aload_n S dJx4a65c_add_72be8_6 rfl ?_
        refine k_callV_q S dJx4a65c_add_72be8_7 v_Jx4a65c_129 (li_grow D hl hc hca hel hf hn) (by assumption) (fun q7 h7 hp7 => ?_) rfl rfl (by decide) (by omega) (by omega) (Nat.le_of_ble_eq_true rfl)
        obtain ⟨z1, z2, z3, ⟨f1, cap1, z4, z5, z6, z7, z8⟩, ⟨m1, z9⟩, z10⟩ := hp7
        refine k_astore_n S dJx4a65c_add_72be8_10 (by decide) ?_
        have hql : q7 ≠ l := fun e => by subst e; rw [z8] at z9; cases z9
        obtain ⟨fv1, hv1⟩ : ∃ fv1, h7 v = some (gObj ci fv1) := by
          rcases hvl with z | z
          · exact ⟨_, z10 _ _ hv z⟩
          · by_cases z' : v = l
            · subst z'; subst z; exact ⟨_, z9⟩
            · exact ⟨_, z10 _ _ hv z'⟩
        refine k_aload_n S dJx4a65c_add_72be8_11 rfl ?_
        refine k_iload_n S dJx4a65c_add_72be8_12 rfl ?_
        refine k_aload_n S dJx4a65c_add_72be8_13 rfl ?_
        refine k_aastore S dJx4a65c_add_72be8_14 z8 (by omega) hv1 hc hca ?_
        refine k_aload_n S dJx4a65c_add_72be8_15 rfl ?_
        refine k_iload_n S dJx4a65c_add_72be8_16 rfl ?_
        refine k_iconst S dJx4a65c_add_72be8_17 ?_
        refine k_iadd S dJx4a65c_add_72be8_18 ?_
        refine k_putf S dJx4a65c_add_72be8_19 f_Jx4a65c_48 (by rw [hput_n _ _ (Ne.symm hql)]; exact z9) (gfit_int _) (Nat.le_of_ble_eq_true rfl) ?_
        refine k_return S dJx4a65c_add_72be8_22 ?_ (by omega) (by omega)
        refine ⟨rfl, ⟨q7, cap1, gupd f1 ((n : Nat) : Int).toNat (some v), ⟨⟨m1, ?_⟩, Or.inr ⟨?_, z3, by omega, by omega⟩, by omega⟩, fun i hi => ?_, ?_, Or.inr z1⟩, ?_⟩
        · rw [hput_s]; congr 4
        · rw [hput_n _ _ hql]
          exact hput_s _ _ _
        · rw [gupd_n _ _ (by omega)]
          exact z4 i hi
        · have : ((n : Nat) : Int).toNat = n := by omega
          rw [this, gupd_s]
        · intro q g hq hn9
          have hqq : q ≠ q7 := fun e => by subst e; rw [z1] at hq; cases hq
          have hnl : q ≠ l := fun e => hn9 (Or.inl e)
          rw [hput_n _ _ hnl, hput_n _ _ hqq]
          exact z10 q g hq hnl
    rcases h2 with ⟨rfl, rfl, rfl⟩ | ⟨g1, g2, g3, g4⟩
    · refine k_iload_n S dJx4a65c_add_72be8_0 rfl ?_
      refine k_aload_n S dJx4a65c_add_72be8_1 rfl ?_
      refine k_alenE S dJx4a65c_add_72be8_2 ?_
      exact ha2
    · refine k_iload_n S dJx4a65c_add_72be8_0 rfl ?_
      refine k_aload_n S dJx4a65c_add_72be8_1 rfl ?_
      refine k_alen S dJx4a65c_add_72be8_2 (by assumption) (by decide) ?_
      exact ha2
  · rcases h2 with ⟨rfl, rfl, rfl⟩ | ⟨g1, g2, g3, g4⟩
    · exact absurd rfl hf
    · have hel9 := hl.ne g1
      refine GMet.intro RJx4a65c rfl (by decide) (gcats rfl) (Nat.le_of_ble_eq_true rfl) fun K KX S => ?_
      show K 0 [some _, some _, some _, some _] [] _ 0 0
      refine k_iload_n S dJx4a65c_add_72be8_0 rfl ?_
      refine k_aload_n S dJx4a65c_add_72be8_1 rfl ?_
      refine k_alen S dJx4a65c_add_72be8_2 (by assumption) (by decide) ?_
      refine k_icmp_ne (tgt := 11) S dJx4a65c_add_72be8_3 (by decide) (by omega) (by omega) (fun c3 => ?_) (fun c3 => ?_)
      · refine k_aload_n S dJx4a65c_add_72be8_11 rfl ?_
        refine k_iload_n S dJx4a65c_add_72be8_12 rfl ?_
        refine k_aload_n S dJx4a65c_add_72be8_13 rfl ?_
        refine k_aastore S dJx4a65c_add_72be8_14 g1 (by omega) hv hc hca ?_
        refine k_aload_n S dJx4a65c_add_72be8_15 rfl ?_
        refine k_iload_n S dJx4a65c_add_72be8_16 rfl ?_
        refine k_iconst S dJx4a65c_add_72be8_17 ?_
        refine k_iadd S dJx4a65c_add_72be8_18 ?_
        refine k_putf S dJx4a65c_add_72be8_19 f_Jx4a65c_48 (by rw [hput_n _ _ (Ne.symm hel9)]; exact h1) (gfit_int _) (Nat.le_of_ble_eq_true rfl) ?_
        refine k_return S dJx4a65c_add_72be8_22 ?_ (by omega) (by omega)
        refine ⟨rfl, ⟨e, cap, gupd f ((n : Nat) : Int).toNat (some v), ⟨⟨m, ?_⟩, Or.inr ⟨?_, g2, by omega, by omega⟩, by omega⟩, fun i hi => ?_, ?_, Or.inl rfl⟩, ?_⟩
        · rw [hput_s]; congr 4
        · rw [hput_n _ _ hel9]
          exact hput_s _ _ _
        · rw [gupd_n _ _ (by omega)]
        · have : ((n : Nat) : Int).toNat = n := by omega
          rw [this, gupd_s]
        · exact keeps.tr (keeps.put (Or.inl (Or.inr ⟨rfl, g2⟩))) (keeps.put (Or.inl (Or.inl rfl)))
      · omega
/-- add(v) -/
theorem li_add (D : DD) {h : GH} {l e cap n : Nat} {f : Nat → Option Nat} (hl : IsList D h l e cap n f) {ci : Nat} {C : String} {T : u_T} {N : Nat} (hc : gcl[ci]? = some (C, T, N)) (hca : Cond.castable C "java/lang/Object" ∈ kwl) (hel : ∀ i : Nat, i < n → ∃ (y : Nat) (fs : List GV), f i = some y ∧ h y = some (gObj ci fs)) {v : Nat} {fv : List GV} (hv : h v = some (gObj ci fv)) (hvl : v ≠ l) (hn : n ≤ 11) : GMet D yJx4a65c_add_9ea2d cJx4a65c_add_9ea2d 2 (some .boolean) [] 8 1 1000 [gR (some l), gR (some v)] h (pr (gI 1) (fun h1 => (∃ (e1 cap1 : Nat) (f1 : Nat → Option Nat), IsList D h1 l e1 cap1 (n + 1) f1 ∧ (∀ i, i < n → f1 i = f i) ∧ f1 n = some v ∧ (e1 = e ∨ h e1 = none)) ∧ keeps h h1 (fun x => x = l ∨ (x = e ∧ e ≠ cad D 4)))) := by
  obtain ⟨⟨m, h1⟩, h2, h3⟩ := id hl
  have hk : keeps h (hput h l (gObj 9 [gI (m + 1), gR (some e), gI n])) (fun x => x = l) := keeps.put (Or.inl rfl)
  have hl2 : IsList D (hput h l (gObj 9 [gI (m + 1), gR (some e), gI n])) l e cap n f := by
    refine ⟨⟨m + 1, hput_s _ _ _⟩, ?_, h3⟩
    rcases h2 with z | ⟨g1, g2⟩
    · exact Or.inl z
    · exact Or.inr ⟨by rw [hput_n _ _ (hl.ne g1)]; exact g1, g2⟩
  have hel2 : ∀ i : Nat, i < n → ∃ (y : Nat) (fs : List GV), f i = some y ∧ (hput h l (gObj 9 [gI (m + 1), gR (some e), gI n])) y = some (gObj ci fs) := by
    intro i hi
    obtain ⟨y, fs, z1, z2⟩ := hel i hi
    by_cases z : y = l
    · subst z
      rw [h1] at z2
      cases z2
      exact ⟨y, _, z1, hput_s _ _ _⟩
    · exact ⟨y, fs, z1, by rw [hput_n _ _ z]; exact z2⟩
  refine GMet.intro RJx4a65c rfl (by decide) (gcats rfl) (Nat.le_of_ble_eq_true rfl) fun K KX S => ?_
  show K 0 [some _, some _] [] _ 0 0
  refine k_aload_n S dJx4a65c_add_9ea2d_0 rfl ?_
  refine k_dup S dJx4a65c_add_9ea2d_1 ?_
  refine k_getf S dJx4a65c_add_9ea2d_2 f_Jx4a65c_63 (by assumption) (by rfl) ?_
  refine k_iconst S dJx4a65c_add_9ea2d_5 ?_
  refine k_iadd S dJx4a65c_add_9ea2d_6 ?_
  refine k_putf S dJx4a65c_add_9ea2d_7 f_Jx4a65c_63 (by assumption) (gfit_int _) (Nat.le_of_ble_eq_true rfl) ?_
  obtain ⟨⟨m2, g1⟩, -, -⟩ := id hl2
  refine k_aload_n S dJx4a65c_add_9ea2d_10 rfl ?_
  refine k_aload_n S dJx4a65c_add_9ea2d_11 rfl ?_
  refine k_aload_n S dJx4a65c_add_9ea2d_12 rfl ?_
  refine k_getf S dJx4a65c_add_9ea2d_13 f_Jx4a65c_9 (hput_s _ _ _) (by rfl) ?_
  refine k_aload_n S dJx4a65c_add_9ea2d_16 rfl ?_
  refine k_getf S dJx4a65c_add_9ea2d_17 f_Jx4a65c_48 (hput_s _ _ _) (by rfl) ?_
  refine k_callV_v S dJx4a65c_add_9ea2d_20 v_Jx4a65c_131 (li_add3 D hl2 hc hca hel2 (by rw [hput_n _ _ hvl]; exact hv) hn) (hput_s _ _ _) (fun h20 hp20 => ?_) rfl rfl (by decide) (by omega) (by omega) (Nat.le_of_ble_eq_true rfl)
  refine k_iconst S dJx4a65c_add_9ea2d_23 ?_
  refine k_zreturn S dJx4a65c_add_9ea2d_24 (by omega) ?_ (by omega) (by omega)
  obtain ⟨⟨e1, cap1, f1, z1, z2, z3, z4⟩, z5⟩ := hp20
  refine ⟨rfl, ⟨e1, cap1, f1, z1, z2, z3, ?_⟩, keeps.tr (hk.mono fun q z => Or.inl z) z5⟩
  rcases z4 with z | z
  · exact Or.inl z
  · refine Or.inr ?_
    by_cases z' : e1 = l
    · subst z'; rw [hput_s] at z; cases z
    · rw [hput_n _ _ z'] at z; exact z
/-- clear() -/
theorem li_clear (D : DD) {h : GH} {l e cap n : Nat} {f : Nat → Option Nat} (hl : IsList D h l e cap n f) : GMet D yJx4a65c_clear_da8c8 cJx4a65c_clear_da8c8 4 none [] 1 0 0 [gR (some l)] h (pv (fun h1 => (∃ f1 : Nat → Option Nat, IsList D h1 l e cap 0 f1) ∧ keeps h h1 (fun x => x = l ∨ (x = e ∧ e ≠ cad D 4)))) := by
  obtain ⟨⟨m, h1⟩, h2, h3⟩ := id hl
  have hle := hl.le
  refine GMet.intro RJx4a65c rfl (by decide) (gcats rfl) (Nat.le_of_ble_eq_true rfl) fun K KX S => ?_
  show K 0 [some _, none, none, none] [] _ 0 0
  refine k_aload_n S dJx4a65c_clear_da8c8_0 rfl ?_
  refine k_dup S dJx4a65c_clear_da8c8_1 ?_
  refine k_getf S dJx4a65c_clear_da8c8_2 f_Jx4a65c_63 (by assumption) (by rfl) ?_
  refine k_iconst S dJx4a65c_clear_da8c8_5 ?_
  refine k_iadd S dJx4a65c_clear_da8c8_6 ?_
  refine k_putf S dJx4a65c_clear_da8c8_7 f_Jx4a65c_63 (by assumption) (gfit_int _) (Nat.le_of_ble_eq_true rfl) ?_
  refine k_aload_n S dJx4a65c_clear_da8c8_10 rfl ?_
  refine k_getf S dJx4a65c_clear_da8c8_11 f_Jx4a65c_9 (hput_s _ _ _) (by rfl) ?_
  refine k_astore_n S dJx4a65c_clear_da8c8_14 (by decide) ?_
  refine k_aload_n S dJx4a65c_clear_da8c8_15 rfl ?_
  refine k_getf S dJx4a65c_clear_da8c8_16 f_Jx4a65c_48 (hput_s _ _ _) (by rfl) ?_
  refine k_istore_n S dJx4a65c_clear_da8c8_19 (by decide) ?_
  refine k_aload_n S dJx4a65c_clear_da8c8_20 rfl ?_
  refine k_iconst S dJx4a65c_clear_da8c8_21 ?_
  refine k_dup_x1 S dJx4a65c_clear_da8c8_22 ?_
  refine k_putf S dJx4a65c_clear_da8c8_23 f_Jx4a65c_48 (hput_s _ _ _) (gfit_int _) (Nat.le_of_ble_eq_true rfl) ?_
  refine k_istore_n S dJx4a65c_clear_da8c8_26 (by decide) ?_
  rcases h2 with ⟨rfl, rfl, rfl⟩ | ⟨g1, g2, g3, g4⟩
  · refine k_iload_n S dJx4a65c_clear_da8c8_27 rfl ?_
    refine k_iload_n S dJx4a65c_clear_da8c8_28 rfl ?_
    refine k_icmp_ge (tgt := 42) S dJx4a65c_clear_da8c8_29 (by decide) (by omega) (by omega) (fun c29 => ?_) (fun c29 => ?_)
    · refine k_return S dJx4a65c_clear_da8c8_42 ?_ (by omega) (by omega)
      refine ⟨rfl, ⟨f, ⟨m + 1, hput_s _ _ _⟩, Or.inl ⟨rfl, rfl, rfl⟩, by omega⟩, ?_⟩
      exact (keeps.put (Or.inl (Or.inl rfl))).tr (keeps.put (Or.inl (Or.inl rfl)))
    · omega
  · have hle2 := hl.ne g1
    have loop : ∀ (d j : Nat) (h5 : GH) (f5 : Nat → Option Nat), j + d = n → h5 l = some (gObj 9 [gI (m + 1), gR (some e), gI 0]) → h5 e = some (gArrR 5 cap f5) → keeps h h5 (fun x => x = l ∨ (x = e ∧ e ≠ cad D 4)) → K 27 [some (gR (some l)), some (gR (some e)), some (gI (n : Nat)), some (gI (j : Nat))] [] h5 0 0 := by
      intro d
      induction d with
      | zero =>
        intro j h5 f5 hj a1 a2 a3
        refine k_iload_n S dJx4a65c_clear_da8c8_27 rfl ?_
        refine k_iload_n S dJx4a65c_clear_da8c8_28 rfl ?_
        refine k_icmp_ge (tgt := 42) S dJx4a65c_clear_da8c8_29 (by decide) (by omega) (by omega) (fun c29 => ?_) (fun c29 => ?_)
        · exact k_return S dJx4a65c_clear_da8c8_42 ⟨rfl, ⟨f5, ⟨m + 1, a1⟩, Or.inr ⟨a2, g2, by omega, g4⟩, by omega⟩, a3⟩ (by omega) (by omega)
        · omega
      | succ d ih =>
        intro j h5 f5 hj a1 a2 a3
        refine k_iload_n S dJx4a65c_clear_da8c8_27 rfl ?_
        refine k_iload_n S dJx4a65c_clear_da8c8_28 rfl ?_
        refine k_icmp_ge (tgt := 42) S dJx4a65c_clear_da8c8_29 (by decide) (by omega) (by omega) (fun c29 => ?_) (fun c29 => ?_)
        · omega
        · refine k_aload_n S dJx4a65c_clear_da8c8_32 rfl ?_
          refine k_iload_n S dJx4a65c_clear_da8c8_33 rfl ?_
          refine k_null S dJx4a65c_clear_da8c8_34 ?_
          refine k_aastoreN S dJx4a65c_clear_da8c8_35 a2 (by omega) ?_
          refine k_iinc S dJx4a65c_clear_da8c8_36 rfl (by decide) ?_
          refine k_goto (tgt := 27) S dJx4a65c_clear_da8c8_39 (by decide) ?_
          refine ih (j + 1) _ _ (by omega) ?_ (hput_s _ _ _) (a3.tr (keeps.put (Or.inl (Or.inr ⟨rfl, g2⟩))))
          rw [hput_n _ _ (Ne.symm hle2)]
          exact a1
    refine loop n 0 _ f (by omega) (hput_s _ _ _) ?_ ?_
    · rw [hput_n _ _ hle2, hput_n _ _ hle2]
      exact g1
    · exact (keeps.put (Or.inl (Or.inl rfl))).tr (keeps.put (Or.inl (Or.inl rfl)))
/-- fastRemove of the last -/
theorem li_fast (D : DD) {h : GH} {l e cap n : Nat} {f : Nat → Option Nat} (hl : IsList D h l e cap n f) (hn : 1 ≤ n) : GMet D yJx4a65c_fastRemove_b59b0 cJx4a65c_fastRemove_b59b0 4 none [] 1 0 0 [gR (some l), gR (some e), gI ((n : Nat) - 1 : Int)] h (pv (fun h1 => (∃ f1 : Nat → Option Nat, IsList D h1 l e cap (n - 1) f1 ∧ ∀ i, i < n - 1 → f1 i = f i) ∧ keeps h h1 (fun x => x = l ∨ (x = e ∧ e ≠ cad D 4)))) := by
  obtain ⟨⟨m, h1⟩, h2, h3⟩ := id hl
  have hle := hl.le
  obtain ⟨g1, -, g2, g3, g4⟩ := hl.ar (i := 0) (by omega)
  have hle2 := hl.ne g1
  refine GMet.intro RJx4a65c rfl (by decide) (gcats rfl) (Nat.le_of_ble_eq_true rfl) fun K KX S => ?_
  show K 0 [some _, some _, some _, none] [] _ 0 0
  refine k_aload_n S dJx4a65c_fastRemove_b59b0_0 rfl ?_
  refine k_dup S dJx4a65c_fastRemove_b59b0_1 ?_
  refine k_getf S dJx4a65c_fastRemove_b59b0_2 f_Jx4a65c_63 (by assumption) (by rfl) ?_
  refine k_iconst S dJx4a65c_fastRemove_b59b0_5 ?_
  refine k_iadd S dJx4a65c_fastRemove_b59b0_6 ?_
  refine k_putf S dJx4a65c_fastRemove_b59b0_7 f_Jx4a65c_63 (by assumption) (gfit_int _) (Nat.le_of_ble_eq_true rfl) ?_
  refine k_aload_n S dJx4a65c_fastRemove_b59b0_10 rfl ?_
  refine k_getf S dJx4a65c_fastRemove_b59b0_11 f_Jx4a65c_48 (hput_s _ _ _) (by rfl) ?_
  refine k_iconst S dJx4a65c_fastRemove_b59b0_14 ?_
  refine k_isub S dJx4a65c_fastRemove_b59b0_15 ?_
  refine k_dup S dJx4a65c_fastRemove_b59b0_16 ?_
  refine k_istore_n S dJx4a65c_fastRemove_b59b0_17 (by decide) ?_
  refine k_iload_n S dJx4a65c_fastRemove_b59b0_18 rfl ?_
  refine k_icmp_le (tgt := 34) S dJx4a65c_fastRemove_b59b0_19 (by decide) (by omega) (by omega) (fun c19 => ?_) (fun c19 => ?_)
  · refine k_aload_n S dJx4a65c_fastRemove_b59b0_34 rfl ?_
    refine k_aload_n S dJx4a65c_fastRemove_b59b0_35 rfl ?_
    refine k_iload_n S dJx4a65c_fastRemove_b59b0_36 rfl ?_
    refine k_dup_x1 S dJx4a65c_fastRemove_b59b0_37 ?_
    refine k_putf S dJx4a65c_fastRemove_b59b0_38 f_Jx4a65c_48 (hput_s _ _ _) (gfit_int _) (Nat.le_of_ble_eq_true rfl) ?_
    refine k_null S dJx4a65c_fastRemove_b59b0_41 ?_
    refine k_aastoreN S dJx4a65c_fastRemove_b59b0_42 (n := cap) (f := f) (by rw [hput_n _ _ hle2, hput_n _ _ hle2]; exact g1) (by omega) ?_
    refine k_return S dJx4a65c_fastRemove_b59b0_43 ?_ (by omega) (by omega)
    refine ⟨rfl, ⟨_, ⟨⟨m + 1, ?_⟩, Or.inr ⟨hput_s _ _ _, g2, by omega, g4⟩, by omega⟩, fun i hi => ?_⟩, ?_⟩
    · rw [hput_n _ _ (Ne.symm hle2), hput_s]
      have ez : ((n : Nat) : Int) - 1 = ((n - 1 : Nat) : Int) := by omega
      show some (gObj 9 [gI (m + 1), gR (some e), gI (((n : Nat) : Int) - 1)]) = _
      rw [ez]
    · rw [gupd_n _ _ (by omega)]
    · exact ((keeps.put (Or.inl (Or.inl rfl))).tr (keeps.put (Or.inl (Or.inl rfl)))).tr (keeps.put (Or.inl (Or.inr ⟨rfl, g2⟩)))
  · omega
/-- remove(size() - 1) -/
theorem li_removeLast (D : DD) {h : GH} {l e cap n : Nat} {f : Nat → Option Nat} (hl : IsList D h l e cap n f) (hn : 1 ≤ n) : GMet D yJx4a65c_remove_915e3 cJx4a65c_remove_915e3 4 (some (.object "java/lang/Object")) [] 3 0 0 [gR (some l), gI ((n : Nat) - 1 : Int)] h (pr (gR (f (n - 1))) (fun h1 => (∃ f1 : Nat → Option Nat, IsList D h1 l e cap (n - 1) f1 ∧ ∀ i, i < n - 1 → f1 i = f i) ∧ keeps h h1 (fun x => x = l ∨ (x = e ∧ e ≠ cad D 4)))) := by
  obtain ⟨⟨m, h1⟩, h2, h3⟩ := id hl
  have hle := hl.le
  obtain ⟨g1, -, g2, g3, g4⟩ := hl.ar (i := 0) (by omega)
  have en : ((n : Nat) - 1 : Int).toNat = n - 1 := by omega
  refine GMet.intro RJx4a65c rfl (by decide) (gcats rfl) (Nat.le_of_ble_eq_true rfl) fun K KX S => ?_
  show K 0 [some _, some _, none, none] [] _ 0 0
  refine k_iload_n S dJx4a65c_remove_915e3_0 rfl ?_
  refine k_aload_n S dJx4a65c_remove_915e3_1 rfl ?_
  refine k_getf S dJx4a65c_remove_915e3_2 f_Jx4a65c_48 (by assumption) (by rfl) ?_
  refine k_callS_r S dJx4a65c_remove_915e3_5 s_Jx4a65c_118 (obj_check D (by omega) (by omega)) (fun h5 hp5 => ?_) rfl rfl (by decide) (by omega) (by omega) (Nat.le_of_ble_eq_true rfl)
  rw [hp5]
  refine k_pop S dJx4a65c_remove_915e3_8 ?_
  refine k_aload_n S dJx4a65c_remove_915e3_9 rfl ?_
  refine k_getf S dJx4a65c_remove_915e3_10 f_Jx4a65c_9 (by assumption) (by rfl) ?_
  refine k_astore_n S dJx4a65c_remove_915e3_13 (by decide) ?_
  refine k_aload_n S dJx4a65c_remove_915e3_14 rfl ?_
  refine k_iload_n S dJx4a65c_remove_915e3_15 rfl ?_
  refine k_aaload S dJx4a65c_remove_915e3_16 (by assumption) (by omega) ?_
  rw [en]
  refine k_astore_n S dJx4a65c_remove_915e3_17 (by decide) ?_
  refine k_aload_n S dJx4a65c_remove_915e3_18 rfl ?_
  refine k_aload_n S dJx4a65c_remove_915e3_19 rfl ?_
  refine k_iload_n S dJx4a65c_remove_915e3_20 rfl ?_
  refine k_callV_v S dJx4a65c_remove_915e3_21 v_Jx4a65c_144 (li_fast D hl hn) (by assumption) (fun h21 hp21 => ?_) rfl rfl (by decide) (by omega) (by omega) (Nat.le_of_ble_eq_true rfl)
  refine k_aload_n S dJx4a65c_remove_915e3_24 rfl ?_
  exact k_areturn S dJx4a65c_remove_915e3_25 (Or.inl ⟨_, rfl⟩) ⟨rfl, hp21⟩ (by omega) (by omega)
/-- AbstractCollection() -/
theorem ac_init (D : DD) {h : GH} {l : Nat} : GMet D yJxa1e45_init_da8c8 cJxa1e45_init_da8c8 1 none [] 1 0 0 [gR (some l)] h (pv (fun h1 => h1 = h)) := by
  refine GMet.intro RJxa1e45 rfl (by decide) (gcats rfl) (Nat.le_of_ble_eq_true rfl) fun K KX S => ?_
  show K 0 [some _] [] _ 0 0
  refine k_aload_n S dJxa1e45_init_da8c8_0 rfl ?_
  refine k_objInit S dJxa1e45_init_da8c8_1 ml_Jxa1e45_1 mo_inst mo_code (by decide) ?_ (Nat.le_of_ble_eq_true rfl)
  exact k_return S dJxa1e45_init_da8c8_4 ⟨rfl, rfl⟩ (by omega) (by omega)
/-- AbstractList() -/
theorem al_init (D : DD) {h : GH} {l : Nat} {m0 : Int} {x y : GV} (h1 : h l = some (gObj 9 [gI m0, x, y])) : GMet D yJxc12de_init_da8c8 cJxc12de_init_da8c8 1 none [] 2 0 0 [gR (some l)] h (pv (fun h1 => h1 = hput h l (gObj 9 [gI 0, x, y]))) := by
  refine GMet.intro RJxc12de rfl (by decide) (gcats rfl) (Nat.le_of_ble_eq_true rfl) fun K KX S => ?_
  show K 0 [some _] [] _ 0 0
  refine k_aload_n S dJxc12de_init_da8c8_0 rfl ?_
  refine k_callI_v S dJxc12de_init_da8c8_1 i_Jxc12de_1 (ac_init D) (fun h9 hp1 => ?_) rfl rfl (by decide) (by omega) (by omega) (Nat.le_of_ble_eq_true rfl)
  rw [hp1]
  refine k_aload_n S dJxc12de_init_da8c8_4 rfl ?_
  refine k_iconst S dJxc12de_init_da8c8_5 ?_
  refine k_putf S dJxc12de_init_da8c8_6 f_Jxc12de_7 (by assumption) (gfit_int _) (Nat.le_of_ble_eq_true rfl) ?_
  exact k_return S dJxc12de_init_da8c8_9 ⟨rfl, rfl⟩ (by omega) (by omega)
/-- ArrayList() -/
theorem li_init (D : DD) {h : GH} {l : Nat} {m0 : Int} {x : GV} (h1 : h l = some (gObj 9 [gI m0, x, gI 0])) : GMet D yJx4a65c_init_da8c8 cJx4a65c_init_da8c8 1 none [] 3 0 0 [gR (some l)] h (pv (fun h1 => h1 = hput (hput h l (gObj 9 [gI 0, x, gI 0])) l (gObj 9 [gI 0, gR (some (cad D 4)), gI 0]))) := by
  refine GMet.intro RJx4a65c rfl (by decide) (gcats rfl) (Nat.le_of_ble_eq_true rfl) fun K KX S => ?_
  show K 0 [some _] [] _ 0 0
  refine k_aload_n S dJx4a65c_init_da8c8_0 rfl ?_
  refine k_callI_v S dJx4a65c_init_da8c8_1 i_Jx4a65c_1 (al_init D h1) (fun h9 hp1 => ?_) rfl rfl (by decide) (by omega) (by omega) (Nat.le_of_ble_eq_true rfl)
  rw [hp1]
  refine k_aload_n S dJx4a65c_init_da8c8_4 rfl ?_
  refine k_getsE S dJx4a65c_init_da8c8_5 m_Jx4a65c_39 ?_
  refine k_putf S dJx4a65c_init_da8c8_8 f_Jx4a65c_9 (hput_s _ _ _) (gfit_arr _ _) (Nat.le_of_ble_eq_true rfl) ?_
  exact k_return S dJx4a65c_init_da8c8_11 ⟨rfl, rfl⟩ (by omega) (by omega)
