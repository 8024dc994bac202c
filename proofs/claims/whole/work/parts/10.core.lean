/-! ghost values and heaps: whole numbers for the machine's; addresses as they are -/
abbrev GV : Type := Int ⊕ (Int ⊕ (UInt32 ⊕ (UInt64 ⊕ Option Nat)))
abbrev gI (x : Int) : GV := Sum.inl x
abbrev gL (x : Int) : GV := Sum.inr (Sum.inl x)
abbrev gF (x : UInt32) : GV := Sum.inr (Sum.inr (Sum.inl x))
abbrev gD (x : UInt64) : GV := Sum.inr (Sum.inr (Sum.inr (Sum.inl x)))
abbrev gR (x : Option Nat) : GV := Sum.inr (Sum.inr (Sum.inr (Sum.inr x)))
def tv : GV → Value
  | .inl x => .int (Int32.ofInt x)
  | .inr (.inl x) => .long (Int64.ofInt x)
  | .inr (.inr (.inl x)) => .float x
  | .inr (.inr (.inr (.inl x))) => .double x
  | .inr (.inr (.inr (.inr x))) => va_rf x
def gcat : GV → Nat
  | .inl _ => 1
  | .inr (.inl _) => 2
  | .inr (.inr (.inl _)) => 1
  | .inr (.inr (.inr (.inl _))) => 2
  | .inr (.inr (.inr (.inr _))) => 1
theorem tv_cat (v : GV) : (tv v).category = gcat v := by
  rcases v with x | x | x | x | x
  · rfl
  · rfl
  · rfl
  · rfl
  · cases x <;> rfl
theorem tv_cats (st : List GV) : ((st.map tv).map fun v => v.category) = st.map gcat := by
  induction st with
  | nil => rfl
  | cons a l ih => rw [List.map_cons, List.map_cons, List.map_cons, tv_cat, ih]
abbrev gA : Type := (Nat → Int) ⊕ ((Nat → Int) ⊕ ((Nat → UInt64) ⊕ (Nat → Option Nat)))
abbrev gE : Type := (Nat × (Nat × gA)) ⊕ (Nat × List GV)
abbrev GH : Type := Nat → Option gE
abbrev gArr (t n : Nat) (f : Nat → Int) : gE := Sum.inl (t, n, Sum.inl f)
abbrev gArrL (t n : Nat) (f : Nat → Int) : gE := Sum.inl (t, n, Sum.inr (Sum.inl f))
abbrev gArrD (t n : Nat) (f : Nat → UInt64) : gE := Sum.inl (t, n, Sum.inr (Sum.inr (Sum.inl f)))
abbrev gArrR (t n : Nat) (f : Nat → Option Nat) : gE := Sum.inl (t, n, Sum.inr (Sum.inr (Sum.inr f)))
abbrev gObj (c : Nat) (fs : List GV) : gE := Sum.inr (c, fs)
def te (dA : Nat → ClassId) : gE → va_E
  | .inl (t, n, .inl f) => .inl (dA t, n, .inl (fun j => Int32.ofInt (f j)))
  | .inl (t, n, .inr (.inl f)) => .inl (dA t, n, .inr (.inl (fun j => Int64.ofInt (f j))))
  | .inl (t, n, .inr (.inr (.inl f))) => .inl (dA t, n, .inr (.inr (.inr (.inl f))))
  | .inl (t, n, .inr (.inr (.inr f))) => .inl (dA t, n, .inr (.inr (.inr (.inr f))))
  | .inr (c, fs) => .inr (c, fs.map tv)
def hput (h : GH) (a : Nat) (g : gE) : GH := fun b => if b = a then some g else h b
theorem hput_s (h : GH) (a : Nat) (g : gE) : hput h a g a = some g := if_pos rfl
theorem hput_n (h : GH) {a b : Nat} (g : gE) (e : b ≠ a) : hput h a g b = h b := if_neg e
/-! the worlds' classes and arrays -/
abbrev gcl : List vw_C := [(RX0, TX0, 2), (RX2, TX2, 3), (RX2, TX2, 3), (RX3, TX3, 2), (RX4, TX4, 8), (RX5, TX5, 3), (RX6, TX6, 3), (RX7, TX7, 11), (RX8, TX8, 31), (RJx4a65c, TJx4a65c, 3)]
abbrev gtys (dA : Nat → ClassId) : List (ClassId × FieldType) := [(dA 0, .int), (dA 1, .char), (dA 2, .boolean), (dA 3, .long), (dA 4, .double), (dA 5, .object "java/lang/Object")]
/-- the launch, the classes' numbers and slots, the arrays' classes, the constants' addresses, where the new begins -/
abbrev DD : Type := Launch × ((Nat → ClassId) × ((Nat → Nat → Nat) × ((Nat → ClassId) × ((Nat → Nat) × Nat))))
abbrev dG (D : DD) : va_G := (D.2.1, D.2.2.1)
abbrev dAr (D : DD) : Nat → ClassId := D.2.2.2.1
abbrev cad (D : DD) : Nat → Nat := D.2.2.2.2.1
abbrev dLo (D : DD) : Nat := D.2.2.2.2.2
abbrev dS (D : DD) : Nat → Prop := fun q => dLo D ≤ q
def Rel (D : DD) (h : GH) (H : Heap) : Prop := ∃ ws : va_W, va_P (dG D) gcl ws H ∧ va_D (dS D) ws ∧ ∀ (a : Nat) (g : gE), h a = some g → (a, te (dAr D) g) ∈ ws
theorem Rel.get {D : DD} {h : GH} {H : Heap} {a : Nat} {g : gE} (hR : Rel D h H) (hg : h a = some g) : ∃ (ws : va_W) (k : Nat), va_P (dG D) gcl ws H ∧ va_D (dS D) ws ∧ (∀ (a : Nat) (g : gE), h a = some g → (a, te (dAr D) g) ∈ ws) ∧ ws[k]? = some (a, te (dAr D) g) := by
  obtain ⟨ws, h1, h2, h3⟩ := hR
  obtain ⟨k, hk⟩ := List.getElem?_of_mem (h3 a g hg)
  exact ⟨ws, k, h1, h2, h3, hk⟩
theorem Rel.set {D : DD} {h : GH} {H1 : Heap} {ws : va_W} {k a : Nat} {e0 : va_E} {g : gE} (hall : ∀ (a : Nat) (g : gE), h a = some g → (a, te (dAr D) g) ∈ ws) (hk : ws[k]? = some (a, e0)) (hP : va_P (dG D) gcl (ws.set k (a, te (dAr D) g)) H1) (hD : va_D (dS D) (ws.set k (a, te (dAr D) g))) : Rel D (hput h a g) H1 := by
  have hl := (List.getElem?_eq_some_iff.mp hk).1
  refine ⟨_, hP, hD, fun b gb hb => ?_⟩
  by_cases e : b = a
  · subst e
    rw [hput_s] at hb
    cases hb
    exact List.mem_of_getElem? (List.getElem?_set_self hl)
  · rw [hput_n h g e] at hb
    obtain ⟨j, hj⟩ := List.getElem?_of_mem (hall b gb hb)
    have hjk : k ≠ j := fun e' => by
      subst e'
      rw [hk] at hj
      cases hj
      exact e rfl
    exact List.mem_of_getElem? (i := j) (by rw [List.getElem?_set_ne hjk]; exact hj)
theorem Rel.push {D : DD} {h : GH} {H1 : Heap} {ws : va_W} {q : Nat} {g : gE} (hall : ∀ (a : Nat) (g : gE), h a = some g → (a, te (dAr D) g) ∈ ws) (hP : va_P (dG D) gcl (ws ++ [(q, te (dAr D) g)]) H1) (hD : va_D (dS D) (ws ++ [(q, te (dAr D) g)])) : Rel D (hput h q g) H1 ∧ h q = none ∧ dLo D ≤ q := by
  have hlast : (ws ++ [(q, te (dAr D) g)])[ws.length]? = some (q, te (dAr D) g) := by simp
  refine ⟨⟨_, hP, hD, fun b gb hb => ?_⟩, ?_, hD.2 _ _ hlast⟩
  · by_cases e : b = q
    · subst e
      rw [hput_s] at hb
      cases hb
      simp
    · rw [hput_n h g e] at hb
      exact List.mem_append_left _ (hall b gb hb)
  · cases hq : h q with
    | none => rfl
    | some g0 =>
      obtain ⟨j, hj⟩ := List.getElem?_of_mem (hall q g0 hq)
      have hjl := (List.getElem?_eq_some_iff.mp hj).1
      have h9 : (ws ++ [(q, te (dAr D) g)])[j]? = some (q, te (dAr D) g0) := by rw [List.getElem?_append_left hjl]; exact hj
      have := hD.1 _ _ _ _ h9 hlast rfl
      omega
/-! words that go with the method -/
def kwOK : Cond → Bool
  | .arrayClass _ => true
  | .fieldLinkNest .. => true
  | .methodLinkNest .. => true
  | .declares _ => true
  | .castable .. => true
  | .arrayOver (.object _) => true
  | w => w.onTables && w.keeps
theorem kw_warm {w : Cond} (hk : kwOK w = true) {A A' : Array Value} {s U : State} (hW : s.WarmedH U.vm) (h : w.before A s = true) : w.before A' U = true := by
  cases w with
  | arrayClass ty => exact word_at hW (Or.inr ⟨_, rfl⟩) h
  | fieldLinkNest a i b n d hh => exact va_Nw.use rfl (va_Nw.warmF hW (va_Nw.of rfl h))
  | methodLinkNest a i x hh => exact va_Nw.use rfl (va_Nw.warmM hW (va_Nw.of rfl h))
  | declares x => exact va_Nw.use rfl (va_Nw.warmD hW (va_Nw.of rfl h))
  | castable C T => exact va_Nw.use rfl (va_Nw.warmC hW (va_Nw.of rfl h))
  | arrayOver ty =>
    cases ty with
    | object C => exact va_AO.use (va_AO.moved hW.alike (va_AO.of h))
    | _ => exact word_at hW (Or.inl hk) h
  | _ => exact word_at hW (Or.inl hk) h
def kwl : List Cond := lw_tbl.filter kwOK
theorem kw_in {w : Cond} (i : Nat) (h : lw_tbl[i]? = some w) (g : kwOK w = true) : w ∈ kwl := List.mem_filter.mpr ⟨List.mem_of_getElem? h, g⟩
theorem kw_tb {w : Cond} (i : Nat) (h : tables_1[i]? = some w) (g : kwOK w = true) : w ∈ kwl := List.mem_filter.mpr ⟨List.mem_append_right _ (List.mem_of_getElem? h), g⟩
theorem kw_pv {w : Cond} (i : Nat) (h : (k2_sels lw_privs)[i]? = some w) (g : kwOK w = true) : w ∈ kwl := List.mem_filter.mpr ⟨List.mem_append_left _ (List.mem_of_getElem? h), g⟩
theorem kw_ok {w : Cond} (h : w ∈ kwl) : kwOK w = true := (List.mem_filter.mp h).2
/-! what is known of every state: tables, constants -/
abbrev kdD : String := "LShorthandRules$Kind;"
def kdN : Nat → String | 0 => "CHARACTER" | 1 => "CHOICE" | 2 => "DATE" | _ => "STOP"
def gstr : List (String × (Nat × (String × Nat))) := [(RX7, 137, "the days are not between -99 and 99", 10), (RX7, 140, "there is no such form", 11), (RX7, 160, "the day is not between 99 and 9999", 12), (RX7, 175, "there is no such character", 13), (RX7, 185, "there is no such stop", 14), (RX7, 203, "the snippet is not shadowed", 15), (RX7, 206, "the text has 80 characters", 16), (RX7, 221, "no character is ahead of the caret", 17), (RX7, 226, "the caret would be outside the text", 18), (RX7, 229, "there is no stop", 19), (RX7, 234, "no expansion can be undone", 20), (RX7, 246, "there was no expansion", 21), (RX7, 248, "there is no such snippet", 22), (RX7, 257, "the character cannot be typed", 23), (RX7, 261, "the snippet would come to itself", 24), (RX7, 267, "the body has 12 parts", 25), (RX7, 275, "the size of some snippet would be greater than 200", 26), (RX7, 67, "there are 8 snippets", 27), (RX7, 99, "the trigger has 6 characters", 28), (RX0, 41, "motuwethfrsasu", 5)]
abbrev eIOB : String := "java/lang/IndexOutOfBoundsException"
abbrev eIAE : String := "java/lang/IllegalArgumentException"
abbrev eISE : String := "java/lang/IllegalStateException"
abbrev eUOE : String := "java/lang/UnsupportedOperationException"
abbrev eNSE : String := "java/util/NoSuchElementException"
/-- thrown, and passed by the row that names the other -/
def gnc : List (String × String) := [(eIAE, eIOB), (eISE, eIOB), (eISE, eIAE), (eUOE, eIOB), (eISE, eUOE), (eNSE, eIOB)]
def wkB : List Int32 := [109, 111, 116, 117, 119, 101, 116, 104, 102, 114, 115, 97, 115, 117]
def KC (D : DD) (U : State) (H : Heap) : Prop :=
  (∀ i : Nat, i < 4 → va_Z RX1 (kdN i) kdD (.ref (cad D i)) (dS D) U H) ∧
  va_Z RJx4a65c "DEFAULTCAPACITY_EMPTY_ELEMENTDATA" "[Ljava/lang/Object;" (.ref (cad D 4)) (dS D) U H ∧
  va_T (.object "java/lang/Object") (cad D 4) 0 (fun _ => .null) (dS D) U H ∧
  vx_Zq Bundle.tN "UNASSIGNED_STACK" Bundle.steD (dS D) U H ∧ vx_Zq Bundle.tN "SUPPRESSED_SENTINEL" Bundle.listD (dS D) U H ∧
  (∀ q ∈ gstr, vk_R q.1 q.2.1 q.2.2.1 (cad D q.2.2.2) U) ∧
  (va_O "java/lang/String" (cad D 5) (dS D) U H ∧ va_OF "java/lang/String" "coder" "B" (.int 0) (cad D 5) (dS D) U H ∧ va_OF "java/lang/String" "value" "[B" (.ref (cad D 6)) (cad D 5) (dS D) U H ∧ va_T .byte (cad D 6) 14 (fun j => .int (wkB.getD j 0)) (dS D) U H) ∧
  va_Z "java/lang/String" "COMPACT_STRINGS" "Z" (.int 1) (dS D) U H ∧
  va_Mi "[Ljava/lang/Object;" (cad D 7) U ∧
  (∀ i j : Nat, i < 4 → j < 4 → cad D i = cad D j → i = j) ∧
  (∀ q ∈ gnc, va_Nc q.1 q.2 U) ∧
  va_Zq "jdk/internal/util/Preconditions" "SIOOBE_FORMATTER" "Ljava/util/function/BiFunction;" (dS D) U H
theorem KC.go {D : DD} {s T : State} {H0 H : Heap} (h : KC D s H0) (hW : s.WarmedH T.vm) (hq : ∀ a : Nat, a < H0.size → ¬ dS D a → H[a]? = H0[a]?) : KC D T H := by
  obtain ⟨h1, h2, h3, h4, h5, h6, ⟨h7, h8, h9, h10⟩, h11, h12, h13, h14, h15⟩ := h
  refine ⟨fun i hi => va_Z.moved hW.alike ((h1 i hi).kept hq), va_Z.moved hW.alike (h2.kept hq), va_T.moved hW.alike (h3.kept hq), vx_Zq.moved hW.alike (h4.kept hq), vx_Zq.moved hW.alike (h5.kept hq), fun q hq' => vk_R.warm hW (h6 q hq'), ⟨va_O.moved hW.alike (h7.kept hq), va_OF.moved hW.alike (h8.kept hq), va_OF.moved hW.alike (h9.kept hq), va_T.moved hW.alike (h10.kept hq)⟩, va_Z.moved hW.alike (h11.kept hq), va_Mi.moved hW.alike h12, h13, fun q hq' => va_Nc.moved hW.alike (h14 q hq'), va_Zq.moved hW.alike (h15.kept hq)⟩
def Kn (D : DD) (U : State) : Prop := va_K (dG D) gcl (gtys (dAr D)) U ∧ (∀ w ∈ kwl, ∀ A : Array Value, w.before A U = true) ∧ KC D U U.heap ∧ dLo D ≤ U.heap.size
theorem Kn.go {D : DD} {s T : State} {H : Heap} {locs : List Loc} (h : Kn D s) (hT : T.heap = H) (hW : s.WarmedH T.vm) (hS : va_S (dS D) s.heap H locs) : Kn D T := by
  obtain ⟨h1, h2, h3, h4⟩ := h
  subst hT
  exact ⟨va_K.moved hW.alike h1, fun w hw A => kw_warm (kw_ok hw) (A := #[]) hW (h2 w hw _), h3.go hW hS.2.1, Nat.le_trans h4 hS.1⟩
