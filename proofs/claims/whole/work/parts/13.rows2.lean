section RW2
/-- a class of the worlds, by its number -/
def CK (ci : Nat) (C : String) (T : u_T) (N : Nat) (ty : Nat → FieldType) : Prop := gcl[ci]? = some (C, T, N) ∧ (∀ w ∈ u_ws C T N, w ∈ kwl) ∧ (∀ k, k < N → parseFieldDescriptor (T k).2.2.1 = some (ty k)) ∧ ∀ a, a < N → ∀ b, b < N → a ≠ b → (T a).2.1 ≠ (T b).2.1
/-- what a field's entry in the pool of own says -/
def FL (own : String) (idx ci k : Nat) (fty : FieldType) (fin : Bool) : Prop := ∃ (C : String) (T : u_T) (N : Nat) (ty : Nat → FieldType) (ref : String), CK ci C T N ty ∧ k < N ∧ parseFieldDescriptor (T k).2.2.1 = some fty ∧ (T k).2.2.2 = fin ∧ (Cond.fieldLink own idx ref (T k).2.1 (T k).2.2.1 ∈ kwl ∨ ∃ host, Cond.fieldLinkNest own idx ref (T k).2.1 (T k).2.2.1 host ∈ kwl) ∧ (ref = (T k).1 ∨ Cond.sameField ref (T k).1 (T k).2.1 (T k).2.2.1 ∈ kwl)
/-- a final field, in the constructor -/
def FLF (own : String) (idx ci k : Nat) (fty : FieldType) : Prop := ∃ (C : String) (T : u_T) (N : Nat) (ty : Nat → FieldType), CK ci C T N ty ∧ k < N ∧ parseFieldDescriptor (T k).2.2.1 = some fty ∧ (T k).2.2.2 = true ∧ Cond.fieldLink own idx (T k).1 (T k).2.1 (T k).2.2.1 ∈ kwl ∧ (T k).1 = own
def gfit (ty : FieldType) (v : GV) : Prop := narrow ty (tv v) = tv v ∧ fits ty (tv v) = true
theorem gfit_int (x : Int) : gfit .int (gI x) := ⟨rfl, rfl⟩
theorem gfit_long (x : Int) : gfit .long (gL x) := ⟨rfl, rfl⟩
theorem gfit_bool {x : Int} (h : x = 0 ∨ x = 1) : gfit .boolean (gI x) := by
  rcases h with rfl | rfl
  · exact ⟨by decide, by decide⟩
  · exact ⟨by decide, by decide⟩
theorem gfit_ref (C : String) (x : Option Nat) : gfit (.object C) (gR x) := by cases x <;> exact ⟨rfl, rfl⟩
theorem gfit_arr (t : FieldType) (x : Option Nat) : gfit (.array t) (gR x) := by cases x <;> exact ⟨rfl, rfl⟩
def NW (own : String) (idx ci N : Nat) (fs : List GV) : Prop := ∃ (C : String) (T : u_T) (ty : Nat → FieldType), CK ci C T N ty ∧ Cond.classLink own idx C ∈ kwl ∧ Cond.instantiable C N ∈ kwl ∧ Cond.initialized C ∈ kwl ∧ ∀ j, j < N → defaultValue (ty j) = vp_V (fs.map tv) j
def gupd {α : Type} (f : Nat → α) (k : Nat) (x : α) : Nat → α := fun i => if i = k then x else f i
theorem gupd_s {α : Type} (f : Nat → α) (k : Nat) (x : α) : gupd f k x k = x := if_pos rfl
theorem gupd_n {α : Type} (f : Nat → α) {k i : Nat} (x : α) (e : i ≠ k) : gupd f k x i = f i := if_neg e
theorem te_i (dA : Nat → ClassId) (t n : Nat) (f : Nat → Int) (k : Nat) (x : Int) {y : Int32} (hy : y = Int32.ofInt x) : te dA (gArr t n (gupd f k x)) = .inl (dA t, n, .inl (upd (fun j => Int32.ofInt (f j)) k y)) := by
  subst hy
  simp only [te]
  congr 4
  funext j
  by_cases e : j = k
  · subst e; simp [gupd, upd]
  · simp [gupd, upd, e]
theorem te_l (dA : Nat → ClassId) (t n : Nat) (f : Nat → Int) (k : Nat) (x : Int) : te dA (gArrL t n (gupd f k x)) = .inl (dA t, n, .inr (.inl (vp_updL (fun j => Int64.ofInt (f j)) k (Int64.ofInt x)))) := by
  simp only [te]
  congr 5
  funext j
  by_cases e : j = k
  · subst e; simp [gupd, vp_updL]
  · simp [gupd, vp_updL, e]
theorem te_d (dA : Nat → ClassId) (t n : Nat) (f : Nat → UInt64) (k : Nat) (x : UInt64) : te dA (gArrD t n (gupd f k x)) = .inl (dA t, n, .inr (.inr (.inr (.inl (vf_upd f k x))))) := by
  simp only [te]
  congr 7
theorem te_r (dA : Nat → ClassId) (t n : Nat) (f : Nat → Option Nat) (k : Nat) (x : Option Nat) : te dA (gArrR t n (gupd f k x)) = .inl (dA t, n, .inr (.inr (.inr (.inr (va_up f k x))))) := by
  simp only [te]
  congr 7
theorem ra_eq {D : DD} {s : State} {t : Nat} {ty : FieldType} {cA : ClassId} (hK : va_K (dG D) gcl (gtys (dAr D)) s) (ht : (gtys (dAr D))[t]? = some (dAr D t, ty)) (h2 : va_RA s cA ty) : cA = dAr D t := by
  have h1 := (hK.2 t _ ht).2
  cases ty with
  | object C =>
    obtain ⟨_, _, -, -, -, e1⟩ := h1
    obtain ⟨_, _, -, -, -, e2⟩ := h2
    exact Option.some.inj (e2.symm.trans e1)
  | _ => exact Option.some.inj (Eq.trans (Eq.symm h2) h1)
variable {K : Nat → List (Option GV) → List GV → GH → Nat → Nat → Prop} {KX : Nat → List (Option GV) → GH → Nat → Nat → String → Prop} {D : DD} {own mn : String} {cc : ByteArray} {nL dep mc ms : Nat} {hh : List (Nat × Nat × Nat × Nat)} {rp : Option (Option FieldType × (GO → GH → Prop))} {pc : Nat} {ls : List (Option GV)} {st : List GV} {h : GH} {a b : Nat}
theorem k_getf (S : Mach K KX D own mn cc nL dep mc ms hh rp) {idx ci k : Nat} {fty : FieldType} {fin : Bool} {q : Nat} {fs : List GV} {v : GV} (d : decode cc pc = .ok (.getfield idx, 3)) (hf : FL own idx ci k fty fin) (hh : h q = some (gObj ci fs)) (hv : fs[k]? = some v) (kk : K (pc + 3) ls (v :: st) h a b) : K pc ls (gR (some q) :: st) h a b := by
  obtain ⟨p, l, e, R, s, m, args, below, meth, c, Q, ⟨hx, hb, hown, hlk, hlD, hst, hKn, hmn⟩, hml, ⟨hRf, hRl, hRc, hRs⟩, htab, rfl, rfl, hrp⟩ := S
  intro H locs LS hR hS hL
  obtain ⟨C, T, N, ty, ref, ⟨c1, c2, c3, c4⟩, hk, hp, hfi, hlink, hsm⟩ := hf
  obtain ⟨ws, k0, hP, hD, hall, hk0⟩ := hR.get hh
  have hsame : ∀ x, s.fieldFound? (T k).1 (T k).2.1 (T k).2.2.1 = some x → s.fieldFound? ref (T k).2.1 (T k).2.2.1 = some x := by
    intro x hx9
    rcases hsm with rfl | hsm
    · exact hx9
    · exact u_same (args := args) (hKn.2.1 _ hsm _) x hx9
  have hv' : (fs.map tv)[k]? = some (tv v) := by rw [List.getElem?_map, hv]; rfl
  rcases hlink with hl | ⟨host, hl⟩
  · exact va_get (Ts := u_ws C T N) hx hb (fun w hw => hKn.2.1 w (c2 w hw) args) (fun _ h => h) hown hKn.1 hP k0 hk0 c1 k hk (hKn.2.1 _ hl _) hsame hv' d (kk H locs LS hR hS hL)
  · exact va_getN (Ts := u_ws C T N) hx hb (fun w hw => hKn.2.1 w (c2 w hw) args) (fun _ h => h) hown hKn.1 hP k0 hk0 c1 k hk (hKn.2.1 _ hl _) hsame hv' d (kk H locs LS hR hS hL)
theorem k_putf (S : Mach K KX D own mn cc nL dep mc ms hh rp) {idx ci k : Nat} {fty : FieldType} {q : Nat} {fs : List GV} {v : GV} (d : decode cc pc = .ok (.putfield idx, 3)) (hf : FL own idx ci k fty false) (hh : h q = some (gObj ci fs)) (hv : gfit fty v) (hl9 : k < fs.length) (kk : K (pc + 3) ls st (hput h q (gObj ci (fs.set k v))) a b) : K pc ls (v :: gR (some q) :: st) h a b := by
  obtain ⟨p, l, e, R, s, m, args, below, meth, c, Q, ⟨hx, hb, hown, hlk, hlD, hst, hKn, hmn⟩, hml, ⟨hRf, hRl, hRc, hRs⟩, htab, rfl, rfl, hrp⟩ := S
  intro H locs LS hR hS hL
  obtain ⟨C, T, N, ty, ref, ⟨c1, c2, c3, c4⟩, hk, hp, hfi, hlink, hsm⟩ := hf
  obtain ⟨ws, k0, hP, hD, hall, hk0⟩ := hR.get hh
  have hsame : ∀ x, s.fieldFound? (T k).1 (T k).2.1 (T k).2.2.1 = some x → s.fieldFound? ref (T k).2.1 (T k).2.2.1 = some x := by
    intro x hx9
    rcases hsm with rfl | hsm
    · exact hx9
    · exact u_same (args := args) (hKn.2.1 _ hsm _) x hx9
  have e9 : (fs.map tv).set k (tv v) = (fs.set k v).map tv := by rw [List.map_set]
  rcases hlink with hl | ⟨host, hl⟩
  · refine va_put (Ts := u_ws C T N) hx hb (fun w hw => hKn.2.1 w (c2 w hw) args) (fun _ h => h) ty c3 c4 hown hKn.1 hP hD hS k0 hk0 c1 k hk (hKn.2.1 _ hl _) hsame hfi hp hv.1 hv.2 (by simpa using hl9) d fun H1 locs1 hP1 hD1 hS1 => ?_
    rw [e9] at hP1 hD1
    exact kk H1 locs1 LS (Rel.set (g := gObj ci (fs.set k v)) hall hk0 hP1 hD1) hS1 hL
  · refine va_putN (Ts := u_ws C T N) hx hb (fun w hw => hKn.2.1 w (c2 w hw) args) (fun _ h => h) ty c3 c4 hown hKn.1 hP hD hS k0 hk0 c1 k hk (hKn.2.1 _ hl _) hsame hfi hp hv.1 hv.2 (by simpa using hl9) d fun H1 locs1 hP1 hD1 hS1 => ?_
    rw [e9] at hP1 hD1
    exact kk H1 locs1 LS (Rel.set (g := gObj ci (fs.set k v)) hall hk0 hP1 hD1) hS1 hL
theorem k_putF (S : Mach K KX D own mn cc nL dep mc ms hh rp) {idx ci k : Nat} {fty : FieldType} {q : Nat} {fs : List GV} {v : GV} (hm9 : mn = "<init>") (d : decode cc pc = .ok (.putfield idx, 3)) (hf : FLF own idx ci k fty) (hh : h q = some (gObj ci fs)) (hv : gfit fty v) (hl9 : k < fs.length) (kk : K (pc + 3) ls st (hput h q (gObj ci (fs.set k v))) a b) : K pc ls (v :: gR (some q) :: st) h a b := by
  obtain ⟨p, l, e, R, s, m, args, below, meth, c, Q, ⟨hx, hb, hown, hlk, hlD, hst, hKn, hmn⟩, hml, ⟨hRf, hRl, hRc, hRs⟩, htab, rfl, rfl, hrp⟩ := S
  intro H locs LS hR hS hL
  obtain ⟨C, T, N, ty, ⟨c1, c2, c3, c4⟩, hk, hp, hfi, hl, hdc⟩ := hf
  obtain ⟨ws, k0, hP, hD, hall, hk0⟩ := hR.get hh
  have hin2 : meth.name = "<init>" := by
    rcases hmn with h9 | h9
    · rw [hm9] at h9; exact absurd h9 (by decide)
    · rw [h9, hm9]
  have e9 : (fs.map tv).set k (tv v) = (fs.set k v).map tv := by rw [List.map_set]
  refine va_putF (Ts := u_ws C T N) hx hb (fun w hw => hKn.2.1 w (c2 w hw) args) (fun _ h => h) ty c3 c4 hown hKn.1 hP hD hS k0 hk0 c1 k hk (hKn.2.1 _ hl _) (fun _ h => h) hfi hin2 hdc hp hv.1 hv.2 (by simpa using hl9) d fun H1 locs1 hP1 hD1 hS1 => ?_
  rw [e9] at hP1 hD1
  exact kk H1 locs1 LS (Rel.set (g := gObj ci (fs.set k v)) hall hk0 hP1 hD1) hS1 hL
theorem k_iaload (S : Mach K KX D own mn cc nL dep mc ms hh rp) {q n : Nat} {f : Nat → Int} {j : Int} (d : decode cc pc = .ok (.iaload, 1)) (hh : h q = some (gArr 0 n f)) (hj : 0 ≤ j ∧ j < 2147483648 ∧ j < (n : Int)) (kk : K (pc + 1) ls (gI (f j.toNat) :: st) h a b) : K pc ls (gI j :: gR (some q) :: st) h a b := by
  obtain ⟨p, l, e, R, s, m, args, below, meth, c, Q, ⟨hx, hb, hown, hlk, hlD, hst, hKn, hmn⟩, hml, ⟨hRf, hRl, hRc, hRs⟩, htab, rfl, rfl, hrp⟩ := S
  intro H locs LS hR hS hL
  obtain ⟨ws, k0, hP, hD, hall, hk0⟩ := hR.get hh
  refine va_iald hx hb hKn.1 hP k0 0 hk0 rfl (i32_in hj.1 hj.2.1 (by omega)) d ?_
  rw [i32_clamp hj.1 hj.2.1]
  exact kk H locs LS hR hS hL
theorem k_caload (S : Mach K KX D own mn cc nL dep mc ms hh rp) {q n : Nat} {f : Nat → Int} {j : Int} (d : decode cc pc = .ok (.caload, 1)) (hh : h q = some (gArr 1 n f)) (hj : 0 ≤ j ∧ j < 2147483648 ∧ j < (n : Int)) (kk : K (pc + 1) ls (gI (f j.toNat) :: st) h a b) : K pc ls (gI j :: gR (some q) :: st) h a b := by
  obtain ⟨p, l, e, R, s, m, args, below, meth, c, Q, ⟨hx, hb, hown, hlk, hlD, hst, hKn, hmn⟩, hml, ⟨hRf, hRl, hRc, hRs⟩, htab, rfl, rfl, hrp⟩ := S
  intro H locs LS hR hS hL
  obtain ⟨ws, k0, hP, hD, hall, hk0⟩ := hR.get hh
  refine va_cald hx hb hKn.1 hP k0 1 hk0 rfl (i32_in hj.1 hj.2.1 (by omega)) d ?_
  rw [i32_clamp hj.1 hj.2.1]
  exact kk H locs LS hR hS hL
theorem k_baloadz (S : Mach K KX D own mn cc nL dep mc ms hh rp) {q n : Nat} {f : Nat → Int} {j : Int} (d : decode cc pc = .ok (.baload, 1)) (hh : h q = some (gArr 2 n f)) (hj : 0 ≤ j ∧ j < 2147483648 ∧ j < (n : Int)) (kk : K (pc + 1) ls (gI (f j.toNat) :: st) h a b) : K pc ls (gI j :: gR (some q) :: st) h a b := by
  obtain ⟨p, l, e, R, s, m, args, below, meth, c, Q, ⟨hx, hb, hown, hlk, hlD, hst, hKn, hmn⟩, hml, ⟨hRf, hRl, hRc, hRs⟩, htab, rfl, rfl, hrp⟩ := S
  intro H locs LS hR hS hL
  obtain ⟨ws, k0, hP, hD, hall, hk0⟩ := hR.get hh
  refine va_zald hx hb hKn.1 hP k0 2 hk0 rfl (i32_in hj.1 hj.2.1 (by omega)) d ?_
  rw [i32_clamp hj.1 hj.2.1]
  exact kk H locs LS hR hS hL
theorem k_laload (S : Mach K KX D own mn cc nL dep mc ms hh rp) {q n : Nat} {f : Nat → Int} {j : Int} (d : decode cc pc = .ok (.laload, 1)) (hh : h q = some (gArrL 3 n f)) (hj : 0 ≤ j ∧ j < 2147483648 ∧ j < (n : Int)) (kk : K (pc + 1) ls (gL (f j.toNat) :: st) h a b) : K pc ls (gI j :: gR (some q) :: st) h a b := by
  obtain ⟨p, l, e, R, s, m, args, below, meth, c, Q, ⟨hx, hb, hown, hlk, hlD, hst, hKn, hmn⟩, hml, ⟨hRf, hRl, hRc, hRs⟩, htab, rfl, rfl, hrp⟩ := S
  intro H locs LS hR hS hL
  obtain ⟨ws, k0, hP, hD, hall, hk0⟩ := hR.get hh
  refine va_lald hx hb hKn.1 hP k0 3 hk0 rfl (i32_in hj.1 hj.2.1 (by omega)) d ?_
  rw [i32_clamp hj.1 hj.2.1]
  exact kk H locs LS hR hS hL
theorem k_daload (S : Mach K KX D own mn cc nL dep mc ms hh rp) {q n : Nat} {f : Nat → UInt64} {j : Int} (d : decode cc pc = .ok (.daload, 1)) (hh : h q = some (gArrD 4 n f)) (hj : 0 ≤ j ∧ j < 2147483648 ∧ j < (n : Int)) (kk : K (pc + 1) ls (gD (f j.toNat) :: st) h a b) : K pc ls (gI j :: gR (some q) :: st) h a b := by
  obtain ⟨p, l, e, R, s, m, args, below, meth, c, Q, ⟨hx, hb, hown, hlk, hlD, hst, hKn, hmn⟩, hml, ⟨hRf, hRl, hRc, hRs⟩, htab, rfl, rfl, hrp⟩ := S
  intro H locs LS hR hS hL
  obtain ⟨ws, k0, hP, hD, hall, hk0⟩ := hR.get hh
  refine va_dald hx hb hKn.1 hP k0 4 hk0 rfl (i32_in hj.1 hj.2.1 (by omega)) d ?_
  rw [i32_clamp hj.1 hj.2.1]
  exact kk H locs LS hR hS hL
theorem k_aaload (S : Mach K KX D own mn cc nL dep mc ms hh rp) {q n : Nat} {f : Nat → Option Nat} {j : Int} (d : decode cc pc = .ok (.aaload, 1)) (hh : h q = some (gArrR 5 n f)) (hj : 0 ≤ j ∧ j < 2147483648 ∧ j < (n : Int)) (kk : K (pc + 1) ls (gR (f j.toNat) :: st) h a b) : K pc ls (gI j :: gR (some q) :: st) h a b := by
  obtain ⟨p, l, e, R, s, m, args, below, meth, c, Q, ⟨hx, hb, hown, hlk, hlD, hst, hKn, hmn⟩, hml, ⟨hRf, hRl, hRc, hRs⟩, htab, rfl, rfl, hrp⟩ := S
  intro H locs LS hR hS hL
  obtain ⟨ws, k0, hP, hD, hall, hk0⟩ := hR.get hh
  refine va_aldq hx hb hKn.1 hP k0 5 hk0 rfl (i32_in hj.1 hj.2.1 (by omega)) d ?_
  rw [i32_clamp hj.1 hj.2.1]
  exact kk H locs LS hR hS hL
theorem k_iastore (S : Mach K KX D own mn cc nL dep mc ms hh rp) {q n : Nat} {f : Nat → Int} {j : Int} {x : Int} (d : decode cc pc = .ok (.iastore, 1)) (hh : h q = some (gArr 0 n f)) (hj : 0 ≤ j ∧ j < 2147483648 ∧ j < (n : Int)) (kk : K (pc + 1) ls st (hput h q (gArr 0 n (gupd f j.toNat x))) a b) : K pc ls (gI x :: gI j :: gR (some q) :: st) h a b := by
  obtain ⟨p, l, e, R, s, m, args, below, meth, c, Q, ⟨hx, hb, hown, hlk, hlD, hst, hKn, hmn⟩, hml, ⟨hRf, hRl, hRc, hRs⟩, htab, rfl, rfl, hrp⟩ := S
  intro H locs LS hR hS hL
  obtain ⟨ws, k0, hP, hD, hall, hk0⟩ := hR.get hh
  refine va_iast hx hb hKn.1 hP hD hS k0 0 hk0 rfl (i32_in hj.1 hj.2.1 (by omega)) d fun H1 locs1 hP1 hD1 hS1 => ?_
  rw [i32_clamp hj.1 hj.2.1, ← te_i (dAr D) 0 n f j.toNat x rfl] at hP1 hD1
  exact kk H1 locs1 LS (Rel.set hall hk0 hP1 hD1) hS1 hL
theorem k_castore (S : Mach K KX D own mn cc nL dep mc ms hh rp) {q n : Nat} {f : Nat → Int} {j : Int} {x : Int} (d : decode cc pc = .ok (.castore, 1)) (hh : h q = some (gArr 1 n f)) (hj : 0 ≤ j ∧ j < 2147483648 ∧ j < (n : Int)) (hx9 : 0 ≤ x ∧ x < 65536) (kk : K (pc + 1) ls st (hput h q (gArr 1 n (gupd f j.toNat x))) a b) : K pc ls (gI x :: gI j :: gR (some q) :: st) h a b := by
  obtain ⟨p, l, e, R, s, m, args, below, meth, c, Q, ⟨hx, hb, hown, hlk, hlD, hst, hKn, hmn⟩, hml, ⟨hRf, hRl, hRc, hRs⟩, htab, rfl, rfl, hrp⟩ := S
  intro H locs LS hR hS hL
  obtain ⟨ws, k0, hP, hD, hall, hk0⟩ := hR.get hh
  have ec : vp_nar .char (Int32.ofInt x) = Int32.ofInt x := by
    have h9 := pk_vc (Int32.ofInt x)
    rw [i32_c, Int.emod_eq_of_lt hx9.1 hx9.2] at h9
    exact h9
  refine va_cast hx hb hKn.1 hP hD hS k0 1 hk0 rfl (i32_in hj.1 hj.2.1 (by omega)) d fun H1 locs1 hP1 hD1 hS1 => ?_
  rw [i32_clamp hj.1 hj.2.1, ← te_i (dAr D) 1 n f j.toNat x ec] at hP1 hD1
  exact kk H1 locs1 LS (Rel.set hall hk0 hP1 hD1) hS1 hL
theorem k_bastorez (S : Mach K KX D own mn cc nL dep mc ms hh rp) {q n : Nat} {f : Nat → Int} {j : Int} {x : Int} (d : decode cc pc = .ok (.bastore, 1)) (hh : h q = some (gArr 2 n f)) (hj : 0 ≤ j ∧ j < 2147483648 ∧ j < (n : Int)) (hx9 : x = 0 ∨ x = 1) (kk : K (pc + 1) ls st (hput h q (gArr 2 n (gupd f j.toNat x))) a b) : K pc ls (gI x :: gI j :: gR (some q) :: st) h a b := by
  obtain ⟨p, l, e, R, s, m, args, below, meth, c, Q, ⟨hx, hb, hown, hlk, hlD, hst, hKn, hmn⟩, hml, ⟨hRf, hRl, hRc, hRs⟩, htab, rfl, rfl, hrp⟩ := S
  intro H locs LS hR hS hL
  obtain ⟨ws, k0, hP, hD, hall, hk0⟩ := hR.get hh
  have ec : vp_nar .boolean (Int32.ofInt x) = Int32.ofInt x := by
    rcases hx9 with rfl | rfl <;> decide
  refine va_zast hx hb hKn.1 hP hD hS k0 2 hk0 rfl (i32_in hj.1 hj.2.1 (by omega)) d fun H1 locs1 hP1 hD1 hS1 => ?_
  rw [i32_clamp hj.1 hj.2.1, ← te_i (dAr D) 2 n f j.toNat x ec] at hP1 hD1
  exact kk H1 locs1 LS (Rel.set hall hk0 hP1 hD1) hS1 hL
theorem k_lastore (S : Mach K KX D own mn cc nL dep mc ms hh rp) {q n : Nat} {f : Nat → Int} {j : Int} {x : Int} (d : decode cc pc = .ok (.lastore, 1)) (hh : h q = some (gArrL 3 n f)) (hj : 0 ≤ j ∧ j < 2147483648 ∧ j < (n : Int)) (kk : K (pc + 1) ls st (hput h q (gArrL 3 n (gupd f j.toNat x))) a b) : K pc ls (gL x :: gI j :: gR (some q) :: st) h a b := by
  obtain ⟨p, l, e, R, s, m, args, below, meth, c, Q, ⟨hx, hb, hown, hlk, hlD, hst, hKn, hmn⟩, hml, ⟨hRf, hRl, hRc, hRs⟩, htab, rfl, rfl, hrp⟩ := S
  intro H locs LS hR hS hL
  obtain ⟨ws, k0, hP, hD, hall, hk0⟩ := hR.get hh
  refine va_last hx hb hKn.1 hP hD hS k0 3 hk0 rfl (i32_in hj.1 hj.2.1 (by omega)) d fun H1 locs1 hP1 hD1 hS1 => ?_
  rw [i32_clamp hj.1 hj.2.1, ← te_l (dAr D) 3 n f j.toNat x] at hP1 hD1
  exact kk H1 locs1 LS (Rel.set hall hk0 hP1 hD1) hS1 hL
theorem k_dastore (S : Mach K KX D own mn cc nL dep mc ms hh rp) {q n : Nat} {f : Nat → UInt64} {j : Int} {x : UInt64} (d : decode cc pc = .ok (.dastore, 1)) (hh : h q = some (gArrD 4 n f)) (hj : 0 ≤ j ∧ j < 2147483648 ∧ j < (n : Int)) (kk : K (pc + 1) ls st (hput h q (gArrD 4 n (gupd f j.toNat x))) a b) : K pc ls (gD x :: gI j :: gR (some q) :: st) h a b := by
  obtain ⟨p, l, e, R, s, m, args, below, meth, c, Q, ⟨hx, hb, hown, hlk, hlD, hst, hKn, hmn⟩, hml, ⟨hRf, hRl, hRc, hRs⟩, htab, rfl, rfl, hrp⟩ := S
  intro H locs LS hR hS hL
  obtain ⟨ws, k0, hP, hD, hall, hk0⟩ := hR.get hh
  refine va_dast hx hb hKn.1 hP hD hS k0 4 hk0 rfl (i32_in hj.1 hj.2.1 (by omega)) d fun H1 locs1 hP1 hD1 hS1 => ?_
  rw [i32_clamp hj.1 hj.2.1, ← te_d (dAr D) 4 n f j.toNat x] at hP1 hD1
  exact kk H1 locs1 LS (Rel.set hall hk0 hP1 hD1) hS1 hL
theorem k_aastore (S : Mach K KX D own mn cc nL dep mc ms hh rp) {q n v ci : Nat} {f : Nat → Option Nat} {j : Int} {C : String} {T : u_T} {N : Nat} {fs : List GV} (d : decode cc pc = .ok (.aastore, 1)) (hh : h q = some (gArrR 5 n f)) (hj : 0 ≤ j ∧ j < 2147483648 ∧ j < (n : Int)) (hv : h v = some (gObj ci fs)) (hc : gcl[ci]? = some (C, T, N)) (hca : Cond.castable C "java/lang/Object" ∈ kwl) (kk : K (pc + 1) ls st (hput h q (gArrR 5 n (gupd f j.toNat (some v)))) a b) : K pc ls (gR (some v) :: gI j :: gR (some q) :: st) h a b := by
  obtain ⟨p, l, e, R, s, m, args, below, meth, c, Q, ⟨hx, hb, hown, hlk, hlD, hst, hKn, hmn⟩, hml, ⟨hRf, hRl, hRc, hRs⟩, htab, rfl, rfl, hrp⟩ := S
  intro H locs LS hR hS hL
  obtain ⟨ws, k0, hP, hD, hall, hk0⟩ := hR.get hh
  obtain ⟨kv, hkv⟩ := List.getElem?_of_mem (hall v _ hv)
  refine va_astqO (r := (C, T, N)) hx hb hKn.1 hP hD hS k0 5 kv ci hk0 rfl (va_Nw.of rfl (hKn.2.1 _ hca #[])) hkv hc (i32_in hj.1 hj.2.1 (by omega)) d fun H1 locs1 hP1 hD1 hS1 => ?_
  rw [i32_clamp hj.1 hj.2.1, ← te_r (dAr D) 5 n f j.toNat (some v)] at hP1 hD1
  exact kk H1 locs1 LS (Rel.set hall hk0 hP1 hD1) hS1 hL
theorem k_aastoreN (S : Mach K KX D own mn cc nL dep mc ms hh rp) {q n : Nat} {f : Nat → Option Nat} {j : Int} (d : decode cc pc = .ok (.aastore, 1)) (hh : h q = some (gArrR 5 n f)) (hj : 0 ≤ j ∧ j < 2147483648 ∧ j < (n : Int)) (kk : K (pc + 1) ls st (hput h q (gArrR 5 n (gupd f j.toNat none))) a b) : K pc ls (gR none :: gI j :: gR (some q) :: st) h a b := by
  obtain ⟨p, l, e, R, s, m, args, below, meth, c, Q, ⟨hx, hb, hown, hlk, hlD, hst, hKn, hmn⟩, hml, ⟨hRf, hRl, hRc, hRs⟩, htab, rfl, rfl, hrp⟩ := S
  intro H locs LS hR hS hL
  obtain ⟨ws, k0, hP, hD, hall, hk0⟩ := hR.get hh
  refine va_astqN hx hb hKn.1 hP hD hS k0 5 hk0 rfl (i32_in hj.1 hj.2.1 (by omega)) d fun H1 locs1 hP1 hD1 hS1 => ?_
  rw [i32_clamp hj.1 hj.2.1, ← te_r (dAr D) 5 n f j.toNat none] at hP1 hD1
  exact kk H1 locs1 LS (Rel.set hall hk0 hP1 hD1) hS1 hL
theorem k_alen (S : Mach K KX D own mn cc nL dep mc ms hh rp) {q t n : Nat} {x : gA} (d : decode cc pc = .ok (.arraylength, 1)) (hh : h q = some (.inl (t, n, x))) (ht : t < 6) (kk : K (pc + 1) ls (gI n :: st) h a b) : K pc ls (gR (some q) :: st) h a b := by
  obtain ⟨p, l, e, R, s, m, args, below, meth, c, Q, ⟨hx, hb, hown, hlk, hlD, hst, hKn, hmn⟩, hml, ⟨hRf, hRl, hRc, hRs⟩, htab, rfl, rfl, hrp⟩ := S
  intro H locs LS hR hS hL
  obtain ⟨ws, k0, hP, hD, hall, hk0⟩ := hR.get hh
  obtain ⟨ty, hty⟩ : ∃ ty, (gtys (dAr D))[t]? = some (dAr D t, ty) := by
    match t, ht with
    | 0, _ => exact ⟨_, rfl⟩
    | 1, _ => exact ⟨_, rfl⟩
    | 2, _ => exact ⟨_, rfl⟩
    | 3, _ => exact ⟨_, rfl⟩
    | 4, _ => exact ⟨_, rfl⟩
    | 5, _ => exact ⟨_, rfl⟩
  rcases x with f | f | f | f
  · exact va_alen hx hb hKn.1 hP k0 t hk0 hty (v := Int32.ofInt n) Int32.ofInt_eq_ofNat.symm d (kk H locs LS hR hS hL)
  · exact va_alen hx hb hKn.1 hP k0 t hk0 hty (v := Int32.ofInt n) Int32.ofInt_eq_ofNat.symm d (kk H locs LS hR hS hL)
  · exact va_alen hx hb hKn.1 hP k0 t hk0 hty (v := Int32.ofInt n) Int32.ofInt_eq_ofNat.symm d (kk H locs LS hR hS hL)
  · exact va_alen hx hb hKn.1 hP k0 t hk0 hty (v := Int32.ofInt n) Int32.ofInt_eq_ofNat.symm d (kk H locs LS hR hS hL)
theorem k_alenE (S : Mach K KX D own mn cc nL dep mc ms hh rp) (d : decode cc pc = .ok (.arraylength, 1)) (kk : K (pc + 1) ls (gI 0 :: st) h a b) : K pc ls (gR (some (cad D 4)) :: st) h a b := by
  obtain ⟨p, l, e, R, s, m, args, below, meth, c, Q, ⟨hx, hb, hown, hlk, hlD, hst, hKn, hmn⟩, hml, ⟨hRf, hRl, hRc, hRs⟩, htab, rfl, rfl, hrp⟩ := S
  intro H locs LS hR hS hL
  exact va_tlen hx hb hKn.2.2.1.2.2.1 hS (v := Int32.ofInt 0) rfl d (kk H locs LS hR hS hL)
theorem k_newa_i (S : Mach K KX D own mn cc nL dep mc ms hh rp) {n : Int} (d : decode cc pc = .ok (.newarray .int, 2)) (hn : 0 ≤ n ∧ n ≤ 65536) (hw : Cond.arrayClass .int ∈ kwl) (hc : a + 1 ≤ mc) (hs : b + n.toNat ≤ ms) (kk : ∀ q : Nat, h q = none → dLo D ≤ q → K (pc + 2) ls (gR (some q) :: st) (hput h q (gArr 0 n.toNat (fun _ => 0))) (a + 1) (b + n.toNat)) : K pc ls (gI n :: st) h a b := by
  obtain ⟨p, l, e, R, s, m, args, below, meth, c, Q, ⟨hx, hb, hown, hlk, hlD, hst, hKn, hmn⟩, hml, ⟨hRf, hRl, hRc, hRs⟩, htab, rfl, rfl, hrp⟩ := S
  intro H locs LS hR hS hL
  obtain ⟨ws, hP, hD, hall⟩ := hR
  refine va_newa (atype := .int) (ty := .int) (N' := n.toNat) (a0 := (n.toNat, .inl (fun _ => 0))) hx hb (hKn.2.1 _ hw _) rfl hKn.1 hP hD hS (fun q hq => Nat.le_trans hKn.2.2.2 hq) (fun cA => rfl) (fun z => ?_) (i32_clamp hn.1 (by omega)) ?_ (by omega) (by omega) d fun q cA H1 hK1 hP1 hD1 hS1 => ?_
  · rw [show (0 : Int32) = Int32.ofInt 0 from rfl, i32_lt (by omega) (by omega)] at z
    omega
  · have : n.toNat ≤ 65536 := by omega
    exact Nat.le_trans (Nat.mul_le_mul this (show componentBytes .int ≤ 8 by decide)) (by decide)
  · have ec : cA = dAr D 0 := ra_eq hKn.1 rfl (hK1.2 6 (cA, .int) rfl).2
    subst ec
    obtain ⟨r1, r2, r3⟩ := Rel.push (g := gArr 0 n.toNat (fun _ => 0)) hall hP1 hD1
    exact kk q r2 r3 H1 locs LS r1 hS1 hL
theorem k_newa_c (S : Mach K KX D own mn cc nL dep mc ms hh rp) {n : Int} (d : decode cc pc = .ok (.newarray .char, 2)) (hn : 0 ≤ n ∧ n ≤ 65536) (hw : Cond.arrayClass .char ∈ kwl) (hc : a + 1 ≤ mc) (hs : b + n.toNat ≤ ms) (kk : ∀ q : Nat, h q = none → dLo D ≤ q → K (pc + 2) ls (gR (some q) :: st) (hput h q (gArr 1 n.toNat (fun _ => 0))) (a + 1) (b + n.toNat)) : K pc ls (gI n :: st) h a b := by
  obtain ⟨p, l, e, R, s, m, args, below, meth, c, Q, ⟨hx, hb, hown, hlk, hlD, hst, hKn, hmn⟩, hml, ⟨hRf, hRl, hRc, hRs⟩, htab, rfl, rfl, hrp⟩ := S
  intro H locs LS hR hS hL
  obtain ⟨ws, hP, hD, hall⟩ := hR
  refine va_newa (atype := .char) (ty := .char) (N' := n.toNat) (a0 := (n.toNat, .inl (fun _ => 0))) hx hb (hKn.2.1 _ hw _) rfl hKn.1 hP hD hS (fun q hq => Nat.le_trans hKn.2.2.2 hq) (fun cA => rfl) (fun z => ?_) (i32_clamp hn.1 (by omega)) ?_ (by omega) (by omega) d fun q cA H1 hK1 hP1 hD1 hS1 => ?_
  · rw [show (0 : Int32) = Int32.ofInt 0 from rfl, i32_lt (by omega) (by omega)] at z
    omega
  · have : n.toNat ≤ 65536 := by omega
    exact Nat.le_trans (Nat.mul_le_mul this (show componentBytes .char ≤ 8 by decide)) (by decide)
  · have ec : cA = dAr D 1 := ra_eq hKn.1 rfl (hK1.2 6 (cA, .char) rfl).2
    subst ec
    obtain ⟨r1, r2, r3⟩ := Rel.push (g := gArr 1 n.toNat (fun _ => 0)) hall hP1 hD1
    exact kk q r2 r3 H1 locs LS r1 hS1 hL
theorem k_newa_z (S : Mach K KX D own mn cc nL dep mc ms hh rp) {n : Int} (d : decode cc pc = .ok (.newarray .boolean, 2)) (hn : 0 ≤ n ∧ n ≤ 65536) (hw : Cond.arrayClass .boolean ∈ kwl) (hc : a + 1 ≤ mc) (hs : b + n.toNat ≤ ms) (kk : ∀ q : Nat, h q = none → dLo D ≤ q → K (pc + 2) ls (gR (some q) :: st) (hput h q (gArr 2 n.toNat (fun _ => 0))) (a + 1) (b + n.toNat)) : K pc ls (gI n :: st) h a b := by
  obtain ⟨p, l, e, R, s, m, args, below, meth, c, Q, ⟨hx, hb, hown, hlk, hlD, hst, hKn, hmn⟩, hml, ⟨hRf, hRl, hRc, hRs⟩, htab, rfl, rfl, hrp⟩ := S
  intro H locs LS hR hS hL
  obtain ⟨ws, hP, hD, hall⟩ := hR
  refine va_newa (atype := .boolean) (ty := .boolean) (N' := n.toNat) (a0 := (n.toNat, .inl (fun _ => 0))) hx hb (hKn.2.1 _ hw _) rfl hKn.1 hP hD hS (fun q hq => Nat.le_trans hKn.2.2.2 hq) (fun cA => rfl) (fun z => ?_) (i32_clamp hn.1 (by omega)) ?_ (by omega) (by omega) d fun q cA H1 hK1 hP1 hD1 hS1 => ?_
  · rw [show (0 : Int32) = Int32.ofInt 0 from rfl, i32_lt (by omega) (by omega)] at z
    omega
  · have : n.toNat ≤ 65536 := by omega
    exact Nat.le_trans (Nat.mul_le_mul this (show componentBytes .boolean ≤ 8 by decide)) (by decide)
  · have ec : cA = dAr D 2 := ra_eq hKn.1 rfl (hK1.2 6 (cA, .boolean) rfl).2
    subst ec
    obtain ⟨r1, r2, r3⟩ := Rel.push (g := gArr 2 n.toNat (fun _ => 0)) hall hP1 hD1
    exact kk q r2 r3 H1 locs LS r1 hS1 hL
theorem k_newa_l (S : Mach K KX D own mn cc nL dep mc ms hh rp) {n : Int} (d : decode cc pc = .ok (.newarray .long, 2)) (hn : 0 ≤ n ∧ n ≤ 65536) (hw : Cond.arrayClass .long ∈ kwl) (hc : a + 1 ≤ mc) (hs : b + n.toNat ≤ ms) (kk : ∀ q : Nat, h q = none → dLo D ≤ q → K (pc + 2) ls (gR (some q) :: st) (hput h q (gArrL 3 n.toNat (fun _ => 0))) (a + 1) (b + n.toNat)) : K pc ls (gI n :: st) h a b := by
  obtain ⟨p, l, e, R, s, m, args, below, meth, c, Q, ⟨hx, hb, hown, hlk, hlD, hst, hKn, hmn⟩, hml, ⟨hRf, hRl, hRc, hRs⟩, htab, rfl, rfl, hrp⟩ := S
  intro H locs LS hR hS hL
  obtain ⟨ws, hP, hD, hall⟩ := hR
  refine va_newa (atype := .long) (ty := .long) (N' := n.toNat) (a0 := (n.toNat, .inr (.inl (fun _ => 0)))) hx hb (hKn.2.1 _ hw _) rfl hKn.1 hP hD hS (fun q hq => Nat.le_trans hKn.2.2.2 hq) (fun cA => rfl) (fun z => ?_) (i32_clamp hn.1 (by omega)) ?_ (by omega) (by omega) d fun q cA H1 hK1 hP1 hD1 hS1 => ?_
  · rw [show (0 : Int32) = Int32.ofInt 0 from rfl, i32_lt (by omega) (by omega)] at z
    omega
  · have : n.toNat ≤ 65536 := by omega
    exact Nat.le_trans (Nat.mul_le_mul this (show componentBytes .long ≤ 8 by decide)) (by decide)
  · have ec : cA = dAr D 3 := ra_eq hKn.1 rfl (hK1.2 6 (cA, .long) rfl).2
    subst ec
    obtain ⟨r1, r2, r3⟩ := Rel.push (g := gArrL 3 n.toNat (fun _ => 0)) hall hP1 hD1
    exact kk q r2 r3 H1 locs LS r1 hS1 hL
theorem k_newa_d (S : Mach K KX D own mn cc nL dep mc ms hh rp) {n : Int} (d : decode cc pc = .ok (.newarray .double, 2)) (hn : 0 ≤ n ∧ n ≤ 65536) (hw : Cond.arrayClass .double ∈ kwl) (hc : a + 1 ≤ mc) (hs : b + n.toNat ≤ ms) (kk : ∀ q : Nat, h q = none → dLo D ≤ q → K (pc + 2) ls (gR (some q) :: st) (hput h q (gArrD 4 n.toNat (fun _ => 0))) (a + 1) (b + n.toNat)) : K pc ls (gI n :: st) h a b := by
  obtain ⟨p, l, e, R, s, m, args, below, meth, c, Q, ⟨hx, hb, hown, hlk, hlD, hst, hKn, hmn⟩, hml, ⟨hRf, hRl, hRc, hRs⟩, htab, rfl, rfl, hrp⟩ := S
  intro H locs LS hR hS hL
  obtain ⟨ws, hP, hD, hall⟩ := hR
  refine va_newa (atype := .double) (ty := .double) (N' := n.toNat) (a0 := (n.toNat, .inr (.inr (.inr (.inl (fun _ => 0)))))) hx hb (hKn.2.1 _ hw _) rfl hKn.1 hP hD hS (fun q hq => Nat.le_trans hKn.2.2.2 hq) (fun cA => rfl) (fun z => ?_) (i32_clamp hn.1 (by omega)) ?_ (by omega) (by omega) d fun q cA H1 hK1 hP1 hD1 hS1 => ?_
  · rw [show (0 : Int32) = Int32.ofInt 0 from rfl, i32_lt (by omega) (by omega)] at z
    omega
  · have : n.toNat ≤ 65536 := by omega
    exact Nat.le_trans (Nat.mul_le_mul this (show componentBytes .double ≤ 8 by decide)) (by decide)
  · have ec : cA = dAr D 4 := ra_eq hKn.1 rfl (hK1.2 6 (cA, .double) rfl).2
    subst ec
    obtain ⟨r1, r2, r3⟩ := Rel.push (g := gArrD 4 n.toNat (fun _ => 0)) hall hP1 hD1
    exact kk q r2 r3 H1 locs LS r1 hS1 hL
theorem k_newq (S : Mach K KX D own mn cc nL dep mc ms hh rp) {n : Int} {idx : Nat} (d : decode cc pc = .ok (.anewarray idx, 3)) (hn : 0 ≤ n ∧ n ≤ 65536) (hw : Cond.classLink own idx "java/lang/Object" ∈ kwl) (hw2 : Cond.arrayOver (.object "java/lang/Object") ∈ kwl) (hc : a + 1 ≤ mc) (hs : b + n.toNat ≤ ms) (kk : ∀ q : Nat, h q = none → dLo D ≤ q → K (pc + 3) ls (gR (some q) :: st) (hput h q (gArrR 5 n.toNat (fun _ => none))) (a + 1) (b + n.toNat)) : K pc ls (gI n :: st) h a b := by
  obtain ⟨p, l, e, R, s, m, args, below, meth, c, Q, ⟨hx, hb, hown, hlk, hlD, hst, hKn, hmn⟩, hml, ⟨hRf, hRl, hRc, hRs⟩, htab, rfl, rfl, hrp⟩ := S
  intro H locs LS hR hS hL
  obtain ⟨ws, hP, hD, hall⟩ := hR
  refine va_newq (N' := n.toNat) hx hb hown (hKn.2.1 _ hw _) (va_AO.of (hKn.2.1 _ hw2 #[])) hKn.1 hP hD hS (fun q hq => Nat.le_trans hKn.2.2.2 hq) (fun z => ?_) (i32_clamp hn.1 (by omega)) (by omega) (by omega) (by omega) d fun q cA H1 hK1 hP1 hD1 hS1 => ?_
  · rw [show (0 : Int32) = Int32.ofInt 0 from rfl, i32_lt (by omega) (by omega)] at z
    omega
  · have ec : cA = dAr D 5 := ra_eq hKn.1 rfl (hK1.2 6 (cA, .object "java/lang/Object") rfl).2
    subst ec
    obtain ⟨r1, r2, r3⟩ := Rel.push (g := gArrR 5 n.toNat (fun _ => none)) hall hP1 hD1
    exact kk q r2 r3 H1 locs LS r1 hS1 hL
theorem k_new (S : Mach K KX D own mn cc nL dep mc ms hh rp) {idx ci N : Nat} {fs : List GV} (d : decode cc pc = .ok (.new idx, 3)) (hw : NW own idx ci N fs) (hc : a + 1 ≤ mc) (hs : b + N ≤ ms) (kk : ∀ q : Nat, h q = none → dLo D ≤ q → K (pc + 3) ls (gR (some q) :: st) (hput h q (gObj ci fs)) (a + 1) (b + N)) : K pc ls st h a b := by
  obtain ⟨p, l, e, R, s, m, args, below, meth, c, Q, ⟨hx, hb, hown, hlk, hlD, hst, hKn, hmn⟩, hml, ⟨hRf, hRl, hRc, hRs⟩, htab, rfl, rfl, hrp⟩ := S
  intro H locs LS hR hS hL
  obtain ⟨ws, hP, hD, hall⟩ := hR
  obtain ⟨C, T, ty, ⟨c1, c2, c3, c4⟩, w1, w2, w3, hfs⟩ := hw
  refine va_new (Ts := u_ws C T N) (fs := fs.map tv) hx hb (fun w hw => hKn.2.1 w (c2 w hw) args) (fun _ h => h) ty c3 hown (hKn.2.1 _ w1 _) (hKn.2.1 _ w2 _) (hKn.2.1 _ w3 _) hKn.1 hP hD hS (fun q hq => Nat.le_trans hKn.2.2.2 hq) c1 hfs (by omega) (by omega) d fun q H1 hP1 hD1 hS1 => ?_
  obtain ⟨r1, r2, r3⟩ := Rel.push (g := gObj ci fs) hall hP1 hD1
  exact kk q r2 r3 H1 locs LS r1 hS1 hL
theorem cats_le {R : Room} {dep : Nat} (hRl : 40 * dep ≤ R.locals) {st : List GV} (hst : (st.map gcat).sum ≤ 8) (hd : 1 ≤ dep) {k : Nat} (hk : k ≤ 32) : ((st.map tv).map fun v => v.category).sum + k ≤ R.locals := by
  rw [tv_cats]
  omega
theorem k_objInit (S : Mach K KX D own mn cc nL dep mc ms hh rp) {idx : Nat} {q : Nat} (d : decode cc pc = .ok (.invokespecial idx, 3)) (w1 : Cond.methodLink own idx Lib.objectInit ∈ kwl) (w2 : Cond.instanceMethod Lib.objectInit ∈ kwl) (w3 : Cond.code Lib.objectInit ⟨#[0xb1]⟩ 1 none ∈ kwl) (hd : 1 ≤ dep) (kk : K (pc + 3) ls st h a b) (hs9 : (st.map gcat).sum ≤ 8 := by decide) : K pc ls (gR (some q) :: st) h a b := by
  obtain ⟨p, l, e, R, s, m, args, below, meth, c, Q, ⟨hx, hb, hown, hlk, hlD, hst, hKn, hmn⟩, hml, ⟨hRf, hRl, hRc, hRs⟩, htab, rfl, rfl, hrp⟩ := S
  intro H locs LS hR hS hL
  refine W.objInit hx hb hown (hKn.2.1 _ w1 _) (hKn.2.1 _ w2 _) (hKn.2.1 _ w3 _) rfl (by rw [← hL.1]) rfl d (by omega) ?_ (kk H locs LS hR hS hL)
  have := cats_le hRl hs9 hd (k := 12) (by omega)
  simpa [JFrame.monitorRoom] using this
end RW2
