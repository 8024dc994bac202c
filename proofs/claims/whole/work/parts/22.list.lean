/-! ArrayList: n things, in an array of cap places; before the first it is the JDK's empty one -/
def keeps (h h1 : GH) (P : Nat → Prop) : Prop := ∀ (q : Nat) (g : gE), h q = some g → ¬ P q → h1 q = some g
theorem keeps.rf {h : GH} {P : Nat → Prop} : keeps h h P := fun _ _ h _ => h
theorem keeps.tr {h h1 h2 : GH} {P : Nat → Prop} (e1 : keeps h h1 P) (e2 : keeps h1 h2 P) : keeps h h2 P := fun q g h9 hn => e2 q g (e1 q g h9 hn) hn
theorem keeps.mono {h h1 : GH} {P Q : Nat → Prop} (e1 : keeps h h1 P) (hPQ : ∀ q, P q → Q q) : keeps h h1 Q := fun q g h9 hn => e1 q g h9 fun z => hn (hPQ q z)
theorem keeps.put {h : GH} {a : Nat} {g : gE} {P : Nat → Prop} (ha : P a ∨ h a = none) : keeps h (hput h a g) P := fun q g1 h9 hn => by
  have e : q ≠ a := fun e => by
    subst e
    rcases ha with z | z
    · exact hn z
    · rw [z] at h9; cases h9
  rw [hput_n _ _ e]
  exact h9
theorem fr2.keeps {h h1 : GH} {r a : Nat} (e : fr2 h h1 r a) : keeps h h1 (fun q => q = r ∨ q = a) := fun q g h9 hn => by
  rw [e q (fun z => hn (Or.inl z)) (fun z => hn (Or.inr z))]
  exact h9
def IsList (D : DD) (h : GH) (l e cap n : Nat) (f : Nat → Option Nat) : Prop := (∃ m : Int, h l = some (gObj 9 [gI m, gR (some e), gI n])) ∧ ((e = cad D 4 ∧ cap = 0 ∧ n = 0) ∨ (h e = some (gArrR 5 cap f) ∧ e ≠ cad D 4 ∧ n ≤ cap ∧ 10 ≤ cap)) ∧ cap ≤ 18
theorem IsList.kp {D : DD} {h h1 : GH} {l e cap n : Nat} {f : Nat → Option Nat} {P : Nat → Prop} (hl : IsList D h l e cap n f) (hk : keeps h h1 P) (hn1 : ¬ P l) (hn2 : ∀ f1 : Nat → Option Nat, h e = some (gArrR 5 cap f1) → ¬ P e) : IsList D h1 l e cap n f := by
  obtain ⟨⟨m, g1⟩, g2, g3⟩ := hl
  refine ⟨⟨m, hk _ _ g1 hn1⟩, ?_, g3⟩
  rcases g2 with g2 | ⟨g4, g5⟩
  · exact Or.inl g2
  · exact Or.inr ⟨hk _ _ g4 (hn2 f g4), g5⟩
/-- Preconditions.checkIndex, within -/
theorem pre_check (D : DD) {h : GH} {i n : Int} {r : Option Nat} (hi : 0 ≤ i ∧ i < n) (hn : n < 2147483648) : GMet D yJ3_checkIndex_8e157 cJ3_checkIndex_8e157 3 (some .int) [] 1 0 0 [gI i, gI n, gR r] h (pr (gI i) (fun h1 => h1 = h)) := by
  refine GMet.intro RJ3 rfl (by decide) (gcats rfl) (Nat.le_of_ble_eq_true rfl) fun K KX S => ?_
  show K 0 [some _, some _, some _] [] _ 0 0
  refine k_iload_n S dJ3_checkIndex_8e157_0 rfl ?_
  refine k_if_lt (tgt := 9) S dJ3_checkIndex_8e157_1 (by decide) (by omega) (fun c1 => ?_) (fun c1 => ?_)
  · omega
  · refine k_iload_n S dJ3_checkIndex_8e157_4 rfl ?_
    refine k_iload_n S dJ3_checkIndex_8e157_5 rfl ?_
    refine k_icmp_lt (tgt := 16) S dJ3_checkIndex_8e157_6 (by decide) (by omega) (by omega) (fun c6 => ?_) (fun c6 => ?_)
    · refine k_iload_n S dJ3_checkIndex_8e157_16 rfl ?_
      exact k_ireturn S dJ3_checkIndex_8e157_17 ⟨rfl, rfl⟩ (by omega) (by omega)
    · omega
/-- Objects.checkIndex, within -/
theorem obj_check (D : DD) {h : GH} {i n : Int} (hi : 0 ≤ i ∧ i < n) (hn : n < 2147483648) : GMet D yJ15_checkIndex_7cf53 cJ15_checkIndex_7cf53 2 (some .int) [] 2 0 0 [gI i, gI n] h (pr (gI i) (fun h1 => h1 = h)) := by
  refine GMet.intro RJ15 rfl (by decide) (gcats rfl) (Nat.le_of_ble_eq_true rfl) fun K KX S => ?_
  show K 0 [some _, some _] [] _ 0 0
  refine k_iload_n S dJ15_checkIndex_7cf53_0 rfl ?_
  refine k_iload_n S dJ15_checkIndex_7cf53_1 rfl ?_
  refine k_null S dJ15_checkIndex_7cf53_2 ?_
  refine k_callS_r S dJ15_checkIndex_7cf53_3 s_J15_105 (pre_check D hi hn) (fun h3 hp3 => ?_) rfl rfl (by decide) (by omega) (by omega) (Nat.le_of_ble_eq_true rfl)
  rw [hp3]
  exact k_ireturn S dJ15_checkIndex_7cf53_6 ⟨rfl, rfl⟩ (by omega) (by omega)
/-- size() -/
theorem li_size (D : DD) {h : GH} {l e cap n : Nat} {f : Nat → Option Nat} (hl : IsList D h l e cap n f) : GMet D yJx4a65c_size_8abf5 cJx4a65c_size_8abf5 1 (some .int) [] 1 0 0 [gR (some l)] h (pr (gI n) (fun h1 => h1 = h)) := by
  obtain ⟨⟨m, h1⟩, h2, h3⟩ := id hl
  refine GMet.intro RJx4a65c rfl (by decide) (gcats rfl) (Nat.le_of_ble_eq_true rfl) fun K KX S => ?_
  show K 0 [some _] [] _ 0 0
  refine k_aload_n S dJx4a65c_size_8abf5_0 rfl ?_
  refine k_getf S dJx4a65c_size_8abf5_1 f_Jx4a65c_48 (by assumption) (by rfl) ?_
  exact k_ireturn S dJx4a65c_size_8abf5_4 ⟨rfl, rfl⟩ (by omega) (by omega)
theorem IsList.ar {D : DD} {h : GH} {l e cap n : Nat} {f : Nat → Option Nat} (hl : IsList D h l e cap n f) {i : Nat} (hi : i < n) : h e = some (gArrR 5 cap f) ∧ i < cap ∧ e ≠ cad D 4 ∧ n ≤ cap ∧ 10 ≤ cap := by
  rcases hl.2.1 with ⟨-, -, z⟩ | ⟨g1, g2, g3, g4⟩
  · omega
  · exact ⟨g1, by omega, g2, g3, g4⟩
theorem IsList.le {D : DD} {h : GH} {l e cap n : Nat} {f : Nat → Option Nat} (hl : IsList D h l e cap n f) : n ≤ cap ∧ cap ≤ 18 := by
  rcases hl.2.1 with ⟨-, z1, z⟩ | ⟨g1, g2, g3, g4⟩
  · exact ⟨by omega, hl.2.2⟩
  · exact ⟨g3, hl.2.2⟩
theorem IsList.ne {D : DD} {h : GH} {l e cap n : Nat} {f f1 : Nat → Option Nat} (hl : IsList D h l e cap n f) (he : h e = some (gArrR 5 cap f1)) : e ≠ l := fun z => by
  obtain ⟨⟨m, g1⟩, -⟩ := hl
  rw [← z, he] at g1
  cases g1
/-- elementData(i), within -/
theorem li_elem (D : DD) {h : GH} {l e cap n : Nat} {f : Nat → Option Nat} (hl : IsList D h l e cap n f) {i : Nat} (hi : i < n) : GMet D yJx4a65c_elementData_915e3 cJx4a65c_elementData_915e3 2 (some (.object "java/lang/Object")) [] 1 0 0 [gR (some l), gI i] h (pr (gR (f i)) (fun h1 => h1 = h)) := by
  obtain ⟨⟨m, h1⟩, h2, h3⟩ := id hl
  obtain ⟨g1, g2, -⟩ := hl.ar hi
  refine GMet.intro RJx4a65c rfl (by decide) (gcats rfl) (Nat.le_of_ble_eq_true rfl) fun K KX S => ?_
  show K 0 [some _, some _] [] _ 0 0
  refine k_aload_n S dJx4a65c_elementData_915e3_0 rfl ?_
  refine k_getf S dJx4a65c_elementData_915e3_1 f_Jx4a65c_9 (by assumption) (by rfl) ?_
  refine k_iload_n S dJx4a65c_elementData_915e3_4 rfl ?_
  refine k_aaload S dJx4a65c_elementData_915e3_5 (by assumption) (by omega) ?_
  exact k_areturn S dJx4a65c_elementData_915e3_6 (Or.inl ⟨_, rfl⟩) ⟨rfl, rfl⟩ (by omega) (by omega)
/-- get(i), within -/
theorem li_get (D : DD) {h : GH} {l e cap n : Nat} {f : Nat → Option Nat} (hl : IsList D h l e cap n f) {i : Int} (hi : 0 ≤ i ∧ i < n) : GMet D yJx4a65c_get_915e3 cJx4a65c_get_915e3 2 (some (.object "java/lang/Object")) [] 3 0 0 [gR (some l), gI i] h (pr (gR (f i.toNat)) (fun h1 => h1 = h)) := by
  obtain ⟨⟨m, h1⟩, h2, h3⟩ := id hl
  have hle := hl.le
  obtain ⟨k, rfl⟩ := Int.eq_ofNat_of_zero_le hi.1
  have ek : ((k : Nat) : Int).toNat = k := by omega
  rw [ek]
  refine GMet.intro RJx4a65c rfl (by decide) (gcats rfl) (Nat.le_of_ble_eq_true rfl) fun K KX S => ?_
  show K 0 [some _, some _] [] _ 0 0
  refine k_iload_n S dJx4a65c_get_915e3_0 rfl ?_
  refine k_aload_n S dJx4a65c_get_915e3_1 rfl ?_
  refine k_getf S dJx4a65c_get_915e3_2 f_Jx4a65c_48 (by assumption) (by rfl) ?_
  refine k_callS_r S dJx4a65c_get_915e3_5 s_Jx4a65c_118 (obj_check D hi (by omega)) (fun h5 hp5 => ?_) rfl rfl (by decide) (by omega) (by omega) (Nat.le_of_ble_eq_true rfl)
  rw [hp5]
  refine k_pop S dJx4a65c_get_915e3_8 ?_
  refine k_aload_n S dJx4a65c_get_915e3_9 rfl ?_
  refine k_iload_n S dJx4a65c_get_915e3_10 rfl ?_
  refine k_callV_r S dJx4a65c_get_915e3_11 v_Jx4a65c_123 (li_elem D hl (by omega)) (by assumption) (fun h11 hp11 => ?_) rfl rfl (by decide) (by omega) (by omega) (Nat.le_of_ble_eq_true rfl)
  rw [hp11]
  exact k_areturn S dJx4a65c_get_915e3_14 (Or.inl ⟨_, rfl⟩) ⟨rfl, rfl⟩ (by omega) (by omega)
/-- ArraysSupport.newLength of a short one -/
theorem new_len (D : DD) {h : GH} {x y z : Int} (hx : 0 ≤ x ∧ x ≤ 1000) (hy : 0 ≤ y ∧ y ≤ 1000) (hz : 1 ≤ z ∧ z ≤ 1000) : GMet D yJ8_newLength_cabcc cJ8_newLength_cabcc 4 (some .int) [] 2 0 0 [gI x, gI y, gI z] h (pr (gI (x + max y z)) (fun h1 => h1 = h)) := by
  refine GMet.intro RJ8 rfl (by decide) (gcats rfl) (Nat.le_of_ble_eq_true rfl) fun K KX S => ?_
  show K 0 [some _, some _, some _, none] [] _ 0 0
  refine k_iload_n S dJ8_newLength_cabcc_0 rfl ?_
  refine k_iload_n S dJ8_newLength_cabcc_1 rfl ?_
  refine k_iload_n S dJ8_newLength_cabcc_2 rfl ?_
  refine k_max S dJ8_newLength_cabcc_3 ml_J8_194 mm_max_static mm_init mm_max_code (by omega) (by omega) (by decide) (by omega) (by omega) ?_ (Nat.le_of_ble_eq_true rfl)
  refine k_iadd S dJ8_newLength_cabcc_6 ?_
  refine k_istore_n S dJ8_newLength_cabcc_7 (by decide) ?_
  refine k_iconst S dJ8_newLength_cabcc_8 ?_
  refine k_iload_n S dJ8_newLength_cabcc_9 rfl ?_
  refine k_icmp_ge (tgt := 21) S dJ8_newLength_cabcc_10 (by decide) (by omega) (by omega) (fun c10 => ?_) (fun c10 => ?_)
  · omega
  · refine k_iload_n S dJ8_newLength_cabcc_13 rfl ?_
    refine k_ldcI (v := 2147483639) S dJ8_newLength_cabcc_14 co_200 ?_
    refine k_icmp_gt (tgt := 21) S dJ8_newLength_cabcc_16 (by decide) (by omega) (by omega) (fun c16 => ?_) (fun c16 => ?_)
    · omega
    · refine k_iload_n S dJ8_newLength_cabcc_19 rfl ?_
      exact k_ireturn S dJ8_newLength_cabcc_20 ⟨rfl, rfl⟩ (by omega) (by omega)
/-- Arrays.copyOf(a, n, Object[].class), longer -/
theorem copy3 (D : DD) {h : GH} {q0 n0 n1 : Nat} {f0 : Nat → Option Nat} (hh0 : h q0 = some (gArrR 5 n0 f0)) (hle : n0 ≤ n1 ∧ n1 ≤ 1000) {ci : Nat} {C : String} {T : u_T} {N : Nat} (hc : gcl[ci]? = some (C, T, N)) (hca : Cond.castable C "java/lang/Object" ∈ kwl) (hel : ∀ i y : Nat, i < n0 → f0 i = some y → ∃ fs : List GV, h y = some (gObj ci fs)) : GMet D yJ7_copyOf_6403c cJ7_copyOf_6403c 4 (some (.array (.object "java/lang/Object"))) [] 2 1 1000 [gR (some q0), gI n1, gR (some (cad D 7))] h (pq (fun q h1 => h q = none ∧ dLo D ≤ q ∧ ∃ f1 : Nat → Option Nat, (∀ i, i < n0 → f1 i = f0 i) ∧ h1 = hput (hput h q (gArrR 5 n1 (fun _ => none))) q (gArrR 5 n1 f1))) := by
  refine GMet.intro RJ7 rfl (by decide) (gcats rfl) (Nat.le_of_ble_eq_true rfl) fun K KX S => ?_
  show K 0 [some _, some _, some _, none] [] _ 0 0
  refine k_aload_n S dJ7_copyOf_6403c_0 rfl ?_
  refine k_ldcM S dJ7_copyOf_6403c_1 cl_J7_110 ?_
  refine k_acmp_ne (tgt := 13) S dJ7_copyOf_6403c_3 (by decide) (fun c3 => ?_) (fun c3 => ?_)
  · exact absurd rfl c3
  · refine k_iload_n S dJ7_copyOf_6403c_6 rfl ?_
    refine k_newq S dJ7_copyOf_6403c_7 (by omega) cl_J7_2 ao_obj (by omega) (by omega) (fun q7 n7 l7 => ?_)
    refine k_goto (tgt := 24) S dJ7_copyOf_6403c_10 (by decide) ?_
    refine k_astore_n S dJ7_copyOf_6403c_24 (by decide) ?_
    refine k_aload_n S dJ7_copyOf_6403c_25 rfl ?_
    refine k_iconst S dJ7_copyOf_6403c_26 ?_
    refine k_aload_n S dJ7_copyOf_6403c_27 rfl ?_
    refine k_iconst S dJ7_copyOf_6403c_28 ?_
    refine k_aload_n S dJ7_copyOf_6403c_29 rfl ?_
    refine k_alen S dJ7_copyOf_6403c_30 (by rw [hput_n _ _ (fun e => by subst e; rw [n7] at hh0; cases hh0)]; exact hh0) (by decide) ?_
    refine k_iload_n S dJ7_copyOf_6403c_31 rfl ?_
    refine k_min S dJ7_copyOf_6403c_32 ml_J7_304 mm_min_static mm_init mm_min_code (by omega) (by omega) (by decide) (by omega) (by omega) ?_ (Nat.le_of_ble_eq_true rfl)
    have hq : q0 ≠ q7 := fun e => by subst e; rw [n7] at hh0; cases hh0
    have ex : min (n0 : Int) (n1 : Int) = ((n0 : Nat) : Int) := by omega
    rw [ex]
    refine k_copyq (ci := ci) (C := C) S dJ7_copyOf_6403c_35 ml_J7_150 sy_native sy_static sy_init hca (by rw [hput_n _ _ hq]; exact hh0) (hput_s _ _ _) (by omega) (by omega) (by omega) (by omega) (by omega) hc (fun i hi y hy => ?_) (by decide) ?_ (Nat.le_of_ble_eq_true rfl)
    · obtain ⟨fs, hfs⟩ := hel i y (by omega) (by simpa using hy)
      exact ⟨fs, by rw [hput_n _ _ (fun e => by subst e; rw [n7] at hfs; cases hfs)]; exact hfs⟩
    · refine k_aload_n S dJ7_copyOf_6403c_38 rfl ?_
      refine k_areturn S dJ7_copyOf_6403c_39 (Or.inr ⟨_, rfl⟩) ?_ (by omega) (by omega)
      refine ⟨q7, rfl, n7, l7, va_cpy f0 (fun _ => none) 0 0 n0, fun i hi => ?_, ?_⟩
      · rw [pk_cpy_in (by omega) (by omega)]
        congr 1
        omega
      · have e9 : ((n1 : Nat) : Int).toNat = n1 := by omega
        have e8 : ((n0 : Nat) : Int).toNat = n0 := by omega
        rw [e9, e8]
        rfl
/-- Arrays.copyOf(a, n), longer -/
theorem copy2 (D : DD) {h : GH} {q0 n0 n1 : Nat} {f0 : Nat → Option Nat} (hh0 : h q0 = some (gArrR 5 n0 f0)) (hle : n0 ≤ n1 ∧ n1 ≤ 1000) {ci : Nat} {C : String} {T : u_T} {N : Nat} (hc : gcl[ci]? = some (C, T, N)) (hca : Cond.castable C "java/lang/Object" ∈ kwl) (hel : ∀ i y : Nat, i < n0 → f0 i = some y → ∃ fs : List GV, h y = some (gObj ci fs)) : GMet D yJ7_copyOf_1904c cJ7_copyOf_1904c 2 (some (.array (.object "java/lang/Object"))) [] 3 1 1000 [gR (some q0), gI n1] h (pq (fun q h1 => h q = none ∧ dLo D ≤ q ∧ ∃ f1 : Nat → Option Nat, (∀ i, i < n0 → f1 i = f0 i) ∧ h1 = hput (hput h q (gArrR 5 n1 (fun _ => none))) q (gArrR 5 n1 f1))) := by
  refine GMet.intro RJ7 rfl (by decide) (gcats rfl) (Nat.le_of_ble_eq_true rfl) fun K KX S => ?_
  show K 0 [some _, some _] [] _ 0 0
  refine k_aload_n S dJ7_copyOf_1904c_0 rfl ?_
  refine k_iload_n S dJ7_copyOf_1904c_1 rfl ?_
  refine k_aload_n S dJ7_copyOf_1904c_2 rfl ?_
  refine k_getC S dJ7_copyOf_1904c_3 ml_J7_86 gc_declares gc_selects gc_instanceMethod gc_native hh0 (by decide) ?_ (Nat.le_of_ble_eq_true rfl)
  refine k_callS_q S dJ7_copyOf_1904c_6 s_J7_300 (copy3 D hh0 hle hc hca hel) (fun q6 h6 hp6 => ?_) rfl rfl (by decide) (by omega) (by omega) (Nat.le_of_ble_eq_true rfl)
  exact k_areturn S dJ7_copyOf_1904c_9 (Or.inr ⟨_, rfl⟩) ⟨q6, rfl, hp6⟩ (by omega) (by omega)
