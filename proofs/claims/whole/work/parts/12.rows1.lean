section RW1
theorem i32 {x : Int} (hx : -2147483648 ≤ x ∧ x < 2147483648) : (Int32.ofInt x).toInt = x := Int32.toInt_ofInt_of_le (by simpa using hx.1) (by simpa using hx.2)
theorem i32_back (x : Int32) : Int32.ofInt x.toInt = x := Int32.ofInt_toInt x
theorem i32_rng (x : Int32) : -2147483648 ≤ x.toInt ∧ x.toInt < 2147483648 := ⟨by have := Int32.le_toInt x; omega, by have := Int32.toInt_lt x; omega⟩
theorem i32_lt {x y : Int} (hx : -2147483648 ≤ x ∧ x < 2147483648) (hy : -2147483648 ≤ y ∧ y < 2147483648) : Int32.ofInt x < Int32.ofInt y ↔ x < y := by rw [Int32.lt_iff_toInt_lt, i32 hx, i32 hy]
theorem i32_le {x y : Int} (hx : -2147483648 ≤ x ∧ x < 2147483648) (hy : -2147483648 ≤ y ∧ y < 2147483648) : Int32.ofInt x ≤ Int32.ofInt y ↔ x ≤ y := by rw [Int32.le_iff_toInt_le, i32 hx, i32 hy]
theorem i32_eq {x y : Int} (hx : -2147483648 ≤ x ∧ x < 2147483648) (hy : -2147483648 ≤ y ∧ y < 2147483648) : Int32.ofInt x = Int32.ofInt y ↔ x = y := by rw [← Int32.toInt_inj, i32 hx, i32 hy]
theorem i32_clamp {x : Int} (h0 : 0 ≤ x) (h1 : x < 2147483648) : (Int32.ofInt x).toNatClampNeg = x.toNat := by
  show (Int32.ofInt x).toInt.toNat = x.toNat
  rw [i32 ⟨by omega, h1⟩]
theorem i32_in {x : Int} {n : Nat} (h0 : 0 ≤ x) (h1 : x < 2147483648) (h2 : x.toNat < n) : vp_in (Int32.ofInt x) n := by
  intro h
  rcases h with h | h
  · rw [show (0 : Int32) = Int32.ofInt 0 from rfl, i32_lt ⟨by omega, h1⟩ (by omega)] at h
    omega
  · rw [i32_clamp h0 h1] at h
    omega
theorem i64 {x : Int} (hx : -9223372036854775808 ≤ x ∧ x < 9223372036854775808) : (Int64.ofInt x).toInt = x := Int64.toInt_ofInt_of_le (by simpa using hx.1) (by simpa using hx.2)
def bAnd (x y : Int) : Int := (Int32.ofInt x &&& Int32.ofInt y).toInt
def bOr (x y : Int) : Int := (Int32.ofInt x ||| Int32.ofInt y).toInt
def bXor (x y : Int) : Int := (Int32.ofInt x ^^^ Int32.ofInt y).toInt
def bShl (x y : Int) : Int := (Int32.ofInt x <<< (Int32.ofInt y &&& 31)).toInt
def bShr (x y : Int) : Int := (Int32.ofInt x >>> (Int32.ofInt y &&& 31)).toInt
variable {K : Nat → List (Option GV) → List GV → GH → Nat → Nat → Prop} {KX : Nat → List (Option GV) → GH → Nat → Nat → String → Prop} {D : DD} {own mn : String} {cc : ByteArray} {nL dep mc ms : Nat} {hh : List (Nat × Nat × Nat × Nat)} {rp : Option (Option FieldType × (GO → GH → Prop))} {pc : Nat} {ls : List (Option GV)} {st : List GV} {h : GH} {a b : Nat}
theorem k_iconst (S : Mach K KX D own mn cc nL dep mc ms hh rp) {n : Int} (d : decode cc pc = .ok (.iconst n, 1)) (k : K (pc + 1) ls (gI n :: st) h a b) : K pc ls st h a b := by
  obtain ⟨p, l, e, R, s, m, args, below, meth, c, Q, ⟨hx, hb, hown, hlk, hlD, hst, hKn, hmn⟩, hml, ⟨hRf, hRl, hRc, hRs⟩, htab, rfl, rfl, hrp⟩ := S
  intro H locs LS hR hS hL
  exact lv_iconst hx hb d rfl (k H locs LS hR hS hL)
theorem k_bipush (S : Mach K KX D own mn cc nL dep mc ms hh rp) {n : Int} (d : decode cc pc = .ok (.bipush n, 2)) (k : K (pc + 2) ls (gI n :: st) h a b) (hn : (Int8.ofInt n).toInt32 = Int32.ofInt n := by decide) : K pc ls st h a b := by
  obtain ⟨p, l, e, R, s, m, args, below, meth, c, Q, ⟨hx, hb, hown, hlk, hlD, hst, hKn, hmn⟩, hml, ⟨hRf, hRl, hRc, hRs⟩, htab, rfl, rfl, hrp⟩ := S
  intro H locs LS hR hS hL
  exact lv_bipush hx hb d hn (k H locs LS hR hS hL)
theorem k_sipush (S : Mach K KX D own mn cc nL dep mc ms hh rp) {n : Int} (d : decode cc pc = .ok (.sipush n, 3)) (k : K (pc + 3) ls (gI n :: st) h a b) (hn : (Int16.ofInt n).toInt32 = Int32.ofInt n := by decide) : K pc ls st h a b := by
  obtain ⟨p, l, e, R, s, m, args, below, meth, c, Q, ⟨hx, hb, hown, hlk, hlD, hst, hKn, hmn⟩, hml, ⟨hRf, hRl, hRc, hRs⟩, htab, rfl, rfl, hrp⟩ := S
  intro H locs LS hR hS hL
  exact lv_sipush hx hb d hn (k H locs LS hR hS hL)
theorem k_lconst (S : Mach K KX D own mn cc nL dep mc ms hh rp) {n : Fin 2} {v : Int} (hv : v = (n : Nat)) (d : decode cc pc = .ok (.lconst n, 1)) (k : K (pc + 1) ls (gL v :: st) h a b) : K pc ls st h a b := by
  obtain ⟨p, l, e, R, s, m, args, below, meth, c, Q, ⟨hx, hb, hown, hlk, hlD, hst, hKn, hmn⟩, hml, ⟨hRf, hRl, hRc, hRs⟩, htab, rfl, rfl, hrp⟩ := S
  intro H locs LS hR hS hL
  subst hv
  exact lv_lconst hx hb d (v := Int64.ofInt ((n : Nat) : Int)) (by rw [Int64.ofInt_eq_ofNat]) (k H locs LS hR hS hL)
theorem k_fconst0 (S : Mach K KX D own mn cc nL dep mc ms hh rp) (d : decode cc pc = .ok (.fconst 0, 1)) (k : K (pc + 1) ls (gF FP.fconst0 :: st) h a b) : K pc ls st h a b := by
  obtain ⟨p, l, e, R, s, m, args, below, meth, c, Q, ⟨hx, hb, hown, hlk, hlD, hst, hKn, hmn⟩, hml, ⟨hRf, hRl, hRc, hRs⟩, htab, rfl, rfl, hrp⟩ := S
  intro H locs LS hR hS hL
  exact lv_fconst0 hx hb d (k H locs LS hR hS hL)
theorem k_null (S : Mach K KX D own mn cc nL dep mc ms hh rp) (d : decode cc pc = .ok (.aconst_null, 1)) (k : K (pc + 1) ls (gR none :: st) h a b) : K pc ls st h a b := by
  obtain ⟨p, l, e, R, s, m, args, below, meth, c, Q, ⟨hx, hb, hown, hlk, hlD, hst, hKn, hmn⟩, hml, ⟨hRf, hRl, hRc, hRs⟩, htab, rfl, rfl, hrp⟩ := S
  intro H locs LS hR hS hL
  exact lv_null hx hb d (k H locs LS hR hS hL)
theorem k_iload (S : Mach K KX D own mn cc nL dep mc ms hh rp) {i : Nat} {x : Int} (d : decode cc pc = .ok (.iload i, 2)) (hl : ls[i]? = some (some (gI x))) (k : K (pc + 2) ls (gI x :: st) h a b) : K pc ls st h a b := by
  obtain ⟨p, l, e, R, s, m, args, below, meth, c, Q, ⟨hx, hb, hown, hlk, hlD, hst, hKn, hmn⟩, hml, ⟨hRf, hRl, hRc, hRs⟩, htab, rfl, rfl, hrp⟩ := S
  intro H locs LS hR hS hL
  exact lv_iload hx hb d (hL.2.2 _ _ hl).1 (k H locs LS hR hS hL)
theorem k_iload_n (S : Mach K KX D own mn cc nL dep mc ms hh rp) {i : Fin 4} {x : Int} (d : decode cc pc = .ok (.iload_n i, 1)) (hl : ls[(i : Nat)]? = some (some (gI x))) (k : K (pc + 1) ls (gI x :: st) h a b) : K pc ls st h a b := by
  obtain ⟨p, l, e, R, s, m, args, below, meth, c, Q, ⟨hx, hb, hown, hlk, hlD, hst, hKn, hmn⟩, hml, ⟨hRf, hRl, hRc, hRs⟩, htab, rfl, rfl, hrp⟩ := S
  intro H locs LS hR hS hL
  exact lv_iload_n hx hb d rfl (hL.2.2 _ _ hl).1 (k H locs LS hR hS hL)
theorem k_fload (S : Mach K KX D own mn cc nL dep mc ms hh rp) {i : Nat} {x : UInt32} (d : decode cc pc = .ok (.fload i, 2)) (hl : ls[i]? = some (some (gF x))) (k : K (pc + 2) ls (gF x :: st) h a b) : K pc ls st h a b := by
  obtain ⟨p, l, e, R, s, m, args, below, meth, c, Q, ⟨hx, hb, hown, hlk, hlD, hst, hKn, hmn⟩, hml, ⟨hRf, hRl, hRc, hRs⟩, htab, rfl, rfl, hrp⟩ := S
  intro H locs LS hR hS hL
  exact lv_fload hx hb d (hL.2.2 _ _ hl).1 (k H locs LS hR hS hL)
theorem k_fload_n (S : Mach K KX D own mn cc nL dep mc ms hh rp) {i : Fin 4} {x : UInt32} (d : decode cc pc = .ok (.fload_n i, 1)) (hl : ls[(i : Nat)]? = some (some (gF x))) (k : K (pc + 1) ls (gF x :: st) h a b) : K pc ls st h a b := by
  obtain ⟨p, l, e, R, s, m, args, below, meth, c, Q, ⟨hx, hb, hown, hlk, hlD, hst, hKn, hmn⟩, hml, ⟨hRf, hRl, hRc, hRs⟩, htab, rfl, rfl, hrp⟩ := S
  intro H locs LS hR hS hL
  exact lv_fload_n hx hb d rfl (hL.2.2 _ _ hl).1 (k H locs LS hR hS hL)
theorem k_aload (S : Mach K KX D own mn cc nL dep mc ms hh rp) {i : Nat} {x : Option Nat} (d : decode cc pc = .ok (.aload i, 2)) (hl : ls[i]? = some (some (gR x))) (k : K (pc + 2) ls (gR x :: st) h a b) : K pc ls st h a b := by
  obtain ⟨p, l, e, R, s, m, args, below, meth, c, Q, ⟨hx, hb, hown, hlk, hlD, hst, hKn, hmn⟩, hml, ⟨hRf, hRl, hRc, hRs⟩, htab, rfl, rfl, hrp⟩ := S
  intro H locs LS hR hS hL
  cases x with
  | none => exact lv_aloadN hx hb d (hL.2.2 _ _ hl).1 (k H locs LS hR hS hL)
  | some x => exact lv_aload hx hb d (hL.2.2 _ _ hl).1 (k H locs LS hR hS hL)
theorem k_aload_n (S : Mach K KX D own mn cc nL dep mc ms hh rp) {i : Fin 4} {x : Option Nat} (d : decode cc pc = .ok (.aload_n i, 1)) (hl : ls[(i : Nat)]? = some (some (gR x))) (k : K (pc + 1) ls (gR x :: st) h a b) : K pc ls st h a b := by
  obtain ⟨p, l, e, R, s, m, args, below, meth, c, Q, ⟨hx, hb, hown, hlk, hlD, hst, hKn, hmn⟩, hml, ⟨hRf, hRl, hRc, hRs⟩, htab, rfl, rfl, hrp⟩ := S
  intro H locs LS hR hS hL
  cases x with
  | none => exact lv_aload_nN hx hb d rfl (hL.2.2 _ _ hl).1 (k H locs LS hR hS hL)
  | some x => exact lv_aload_n hx hb d rfl (hL.2.2 _ _ hl).1 (k H locs LS hR hS hL)
theorem k_istore (S : Mach K KX D own mn cc nL dep mc ms hh rp) {i : Nat} {x : Int} (d : decode cc pc = .ok (.istore i, 2)) (hi : i < nL) (k : K (pc + 2) (ls.set i (some (gI x))) st h a b) : K pc ls (gI x :: st) h a b := by
  obtain ⟨p, l, e, R, s, m, args, below, meth, c, Q, ⟨hx, hb, hown, hlk, hlD, hst, hKn, hmn⟩, hml, ⟨hRf, hRl, hRc, hRs⟩, htab, rfl, rfl, hrp⟩ := S
  intro H locs LS hR hS hL
  exact lv_istore hx hb d hL.has (by omega) rfl fun LS2 h2 => k H locs LS2 hR hS (hL.set rfl h2)
theorem k_istore_n (S : Mach K KX D own mn cc nL dep mc ms hh rp) {i : Fin 4} {x : Int} (d : decode cc pc = .ok (.istore_n i, 1)) (hi : (i : Nat) < nL) (k : K (pc + 1) (ls.set (i : Nat) (some (gI x))) st h a b) : K pc ls (gI x :: st) h a b := by
  obtain ⟨p, l, e, R, s, m, args, below, meth, c, Q, ⟨hx, hb, hown, hlk, hlD, hst, hKn, hmn⟩, hml, ⟨hRf, hRl, hRc, hRs⟩, htab, rfl, rfl, hrp⟩ := S
  intro H locs LS hR hS hL
  exact lv_istore_n hx hb d rfl hL.has (by omega) rfl fun LS2 h2 => k H locs LS2 hR hS (hL.set rfl h2)
theorem k_fstore (S : Mach K KX D own mn cc nL dep mc ms hh rp) {i : Nat} {x : UInt32} (d : decode cc pc = .ok (.fstore i, 2)) (hi : i < nL) (k : K (pc + 2) (ls.set i (some (gF x))) st h a b) : K pc ls (gF x :: st) h a b := by
  obtain ⟨p, l, e, R, s, m, args, below, meth, c, Q, ⟨hx, hb, hown, hlk, hlD, hst, hKn, hmn⟩, hml, ⟨hRf, hRl, hRc, hRs⟩, htab, rfl, rfl, hrp⟩ := S
  intro H locs LS hR hS hL
  exact lv_fstore hx hb d hL.has (by omega) rfl fun LS2 h2 => k H locs LS2 hR hS (hL.set rfl h2)
theorem k_fstore_n (S : Mach K KX D own mn cc nL dep mc ms hh rp) {i : Fin 4} {x : UInt32} (d : decode cc pc = .ok (.fstore_n i, 1)) (hi : (i : Nat) < nL) (k : K (pc + 1) (ls.set (i : Nat) (some (gF x))) st h a b) : K pc ls (gF x :: st) h a b := by
  obtain ⟨p, l, e, R, s, m, args, below, meth, c, Q, ⟨hx, hb, hown, hlk, hlD, hst, hKn, hmn⟩, hml, ⟨hRf, hRl, hRc, hRs⟩, htab, rfl, rfl, hrp⟩ := S
  intro H locs LS hR hS hL
  exact lv_fstore_n hx hb d rfl hL.has (by omega) rfl fun LS2 h2 => k H locs LS2 hR hS (hL.set rfl h2)
theorem k_astore (S : Mach K KX D own mn cc nL dep mc ms hh rp) {i : Nat} {x : Option Nat} (d : decode cc pc = .ok (.astore i, 2)) (hi : i < nL) (k : K (pc + 2) (ls.set i (some (gR x))) st h a b) : K pc ls (gR x :: st) h a b := by
  obtain ⟨p, l, e, R, s, m, args, below, meth, c, Q, ⟨hx, hb, hown, hlk, hlD, hst, hKn, hmn⟩, hml, ⟨hRf, hRl, hRc, hRs⟩, htab, rfl, rfl, hrp⟩ := S
  intro H locs LS hR hS hL
  cases x with
  | none => exact lv_astoreN hx hb d hL.has (by omega) rfl fun LS2 h2 => k H locs LS2 hR hS (hL.set rfl h2)
  | some x => exact lv_astore hx hb d hL.has (by omega) rfl fun LS2 h2 => k H locs LS2 hR hS (hL.set rfl h2)
theorem k_astore_n (S : Mach K KX D own mn cc nL dep mc ms hh rp) {i : Fin 4} {x : Option Nat} (d : decode cc pc = .ok (.astore_n i, 1)) (hi : (i : Nat) < nL) (k : K (pc + 1) (ls.set (i : Nat) (some (gR x))) st h a b) : K pc ls (gR x :: st) h a b := by
  obtain ⟨p, l, e, R, s, m, args, below, meth, c, Q, ⟨hx, hb, hown, hlk, hlD, hst, hKn, hmn⟩, hml, ⟨hRf, hRl, hRc, hRs⟩, htab, rfl, rfl, hrp⟩ := S
  intro H locs LS hR hS hL
  cases x with
  | none => exact lv_astore_nN hx hb d rfl hL.has (by omega) rfl fun LS2 h2 => k H locs LS2 hR hS (hL.set rfl h2)
  | some x => exact lv_astore_n hx hb d rfl hL.has (by omega) rfl fun LS2 h2 => k H locs LS2 hR hS (hL.set rfl h2)
theorem k_iinc (S : Mach K KX D own mn cc nL dep mc ms hh rp) {i : Nat} {n x : Int} (d : decode cc pc = .ok (.iinc i n, 3)) (hl : ls[i]? = some (some (gI x))) (hi : i < nL) (k : K (pc + 3) (ls.set i (some (gI (x + n)))) st h a b) : K pc ls st h a b := by
  obtain ⟨p, l, e, R, s, m, args, below, meth, c, Q, ⟨hx, hb, hown, hlk, hlD, hst, hKn, hmn⟩, hml, ⟨hRf, hRl, hRc, hRs⟩, htab, rfl, rfl, hrp⟩ := S
  intro H locs LS hR hS hL
  obtain ⟨k0, hk0⟩ := List.getElem?_of_mem (lvL_mem hl)
  exact lv_iinc hx hb d hL.has hk0 (v := Int32.ofInt (x + n)) (Int32.ofInt_add x n).symm (by omega) rfl fun LS2 h2 => k H locs LS2 hR hS (hL.set (v := gI (x + n)) rfl h2)
theorem k_iadd (S : Mach K KX D own mn cc nL dep mc ms hh rp) {x y : Int} (d : decode cc pc = .ok (.iadd, 1)) (k : K (pc + 1) ls (gI (x + y) :: st) h a b) : K pc ls (gI y :: gI x :: st) h a b := by
  obtain ⟨p, l, e, R, s, m, args, below, meth, c, Q, ⟨hx, hb, hown, hlk, hlD, hst, hKn, hmn⟩, hml, ⟨hRf, hRl, hRc, hRs⟩, htab, rfl, rfl, hrp⟩ := S
  intro H locs LS hR hS hL
  refine lv_iadd hx hb d ?_
  rw [← Int32.ofInt_add]
  exact k H locs LS hR hS hL
theorem k_isub (S : Mach K KX D own mn cc nL dep mc ms hh rp) {x y : Int} (d : decode cc pc = .ok (.isub, 1)) (k : K (pc + 1) ls (gI (x - y) :: st) h a b) : K pc ls (gI y :: gI x :: st) h a b := by
  obtain ⟨p, l, e, R, s, m, args, below, meth, c, Q, ⟨hx, hb, hown, hlk, hlD, hst, hKn, hmn⟩, hml, ⟨hRf, hRl, hRc, hRs⟩, htab, rfl, rfl, hrp⟩ := S
  intro H locs LS hR hS hL
  refine lv_isub hx hb d ?_
  rw [← Int32.ofInt_sub]
  exact k H locs LS hR hS hL
theorem k_imul (S : Mach K KX D own mn cc nL dep mc ms hh rp) {x y : Int} (d : decode cc pc = .ok (.imul, 1)) (k : K (pc + 1) ls (gI (x * y) :: st) h a b) : K pc ls (gI y :: gI x :: st) h a b := by
  obtain ⟨p, l, e, R, s, m, args, below, meth, c, Q, ⟨hx, hb, hown, hlk, hlD, hst, hKn, hmn⟩, hml, ⟨hRf, hRl, hRc, hRs⟩, htab, rfl, rfl, hrp⟩ := S
  intro H locs LS hR hS hL
  refine lv_imul hx hb d ?_
  rw [← Int32.ofInt_mul]
  exact k H locs LS hR hS hL
theorem k_iand (S : Mach K KX D own mn cc nL dep mc ms hh rp) {x y : Int} (d : decode cc pc = .ok (.iand, 1)) (k : K (pc + 1) ls (gI (bAnd x y) :: st) h a b) : K pc ls (gI y :: gI x :: st) h a b := by
  obtain ⟨p, l, e, R, s, m, args, below, meth, c, Q, ⟨hx, hb, hown, hlk, hlD, hst, hKn, hmn⟩, hml, ⟨hRf, hRl, hRc, hRs⟩, htab, rfl, rfl, hrp⟩ := S
  intro H locs LS hR hS hL
  refine lv_iand hx hb d ?_
  have hk := k H locs LS hR hS hL
  simp only [List.map_cons, tv, bAnd, Int32.ofInt_toInt] at hk
  exact hk
theorem k_ior (S : Mach K KX D own mn cc nL dep mc ms hh rp) {x y : Int} (d : decode cc pc = .ok (.ior, 1)) (k : K (pc + 1) ls (gI (bOr x y) :: st) h a b) : K pc ls (gI y :: gI x :: st) h a b := by
  obtain ⟨p, l, e, R, s, m, args, below, meth, c, Q, ⟨hx, hb, hown, hlk, hlD, hst, hKn, hmn⟩, hml, ⟨hRf, hRl, hRc, hRs⟩, htab, rfl, rfl, hrp⟩ := S
  intro H locs LS hR hS hL
  refine lv_ior hx hb d ?_
  have hk := k H locs LS hR hS hL
  simp only [List.map_cons, tv, bOr, Int32.ofInt_toInt] at hk
  exact hk
theorem k_ixor (S : Mach K KX D own mn cc nL dep mc ms hh rp) {x y : Int} (d : decode cc pc = .ok (.ixor, 1)) (k : K (pc + 1) ls (gI (bXor x y) :: st) h a b) : K pc ls (gI y :: gI x :: st) h a b := by
  obtain ⟨p, l, e, R, s, m, args, below, meth, c, Q, ⟨hx, hb, hown, hlk, hlD, hst, hKn, hmn⟩, hml, ⟨hRf, hRl, hRc, hRs⟩, htab, rfl, rfl, hrp⟩ := S
  intro H locs LS hR hS hL
  refine lv_ixor hx hb d ?_
  have hk := k H locs LS hR hS hL
  simp only [List.map_cons, tv, bXor, Int32.ofInt_toInt] at hk
  exact hk
theorem k_ishl (S : Mach K KX D own mn cc nL dep mc ms hh rp) {x y : Int} (d : decode cc pc = .ok (.ishl, 1)) (k : K (pc + 1) ls (gI (bShl x y) :: st) h a b) : K pc ls (gI y :: gI x :: st) h a b := by
  obtain ⟨p, l, e, R, s, m, args, below, meth, c, Q, ⟨hx, hb, hown, hlk, hlD, hst, hKn, hmn⟩, hml, ⟨hRf, hRl, hRc, hRs⟩, htab, rfl, rfl, hrp⟩ := S
  intro H locs LS hR hS hL
  refine lv_ishl hx hb d ?_
  have hk := k H locs LS hR hS hL
  simp only [List.map_cons, tv, bShl, Int32.ofInt_toInt] at hk
  exact hk
theorem k_ishr (S : Mach K KX D own mn cc nL dep mc ms hh rp) {x y : Int} (d : decode cc pc = .ok (.ishr, 1)) (k : K (pc + 1) ls (gI (bShr x y) :: st) h a b) : K pc ls (gI y :: gI x :: st) h a b := by
  obtain ⟨p, l, e, R, s, m, args, below, meth, c, Q, ⟨hx, hb, hown, hlk, hlD, hst, hKn, hmn⟩, hml, ⟨hRf, hRl, hRc, hRs⟩, htab, rfl, rfl, hrp⟩ := S
  intro H locs LS hR hS hL
  refine lv_ishr hx hb d ?_
  have hk := k H locs LS hR hS hL
  simp only [List.map_cons, tv, bShr, Int32.ofInt_toInt] at hk
  exact hk
theorem k_ineg (S : Mach K KX D own mn cc nL dep mc ms hh rp) {x : Int} (d : decode cc pc = .ok (.ineg, 1)) (k : K (pc + 1) ls (gI (-x) :: st) h a b) : K pc ls (gI x :: st) h a b := by
  obtain ⟨p, l, e, R, s, m, args, below, meth, c, Q, ⟨hx, hb, hown, hlk, hlD, hst, hKn, hmn⟩, hml, ⟨hRf, hRl, hRc, hRs⟩, htab, rfl, rfl, hrp⟩ := S
  intro H locs LS hR hS hL
  refine lv_ineg hx hb d ?_
  rw [← Int32.ofInt_neg]
  exact k H locs LS hR hS hL
theorem i32_nI {x : Int} (h0 : 0 ≤ x) : Int32.ofInt x = nI x.toNat := by
  obtain ⟨n, rfl⟩ := Int.eq_ofNat_of_zero_le h0
  show Int32.ofInt (n : Int) = Int32.ofNat n
  rw [Int32.ofInt_eq_ofNat]
theorem k_idiv (S : Mach K KX D own mn cc nL dep mc ms hh rp) {x y : Int} (d : decode cc pc = .ok (.idiv, 1)) (h1 : 0 ≤ x ∧ x < 2147483648) (h2 : 0 < y ∧ y < 2147483648) (k : K (pc + 1) ls (gI (x / y) :: st) h a b) : K pc ls (gI y :: gI x :: st) h a b := by
  obtain ⟨p, l, e, R, s, m, args, below, meth, c, Q, ⟨hx, hb, hown, hlk, hlD, hst, hKn, hmn⟩, hml, ⟨hRf, hRl, hRc, hRs⟩, htab, rfl, rfl, hrp⟩ := S
  intro H locs LS hR hS hL
  refine lv_idiv hx hb d (fun z => ?_) ?_
  · rw [show (0 : Int32) = Int32.ofInt 0 from rfl, i32_eq (by omega) (by omega)] at z
    omega
  · have e1 : Int32.ofInt x / Int32.ofInt y = Int32.ofInt (x / y) := by
      obtain ⟨n, rfl⟩ := Int.eq_ofNat_of_zero_le h1.1
      obtain ⟨u, rfl⟩ := Int.eq_ofNat_of_zero_le (Int.le_of_lt h2.1)
      rw [i32_nI h1.1, i32_nI (Int.le_of_lt h2.1), Int.toNat_natCast, Int.toNat_natCast, pk_div (by omega) (by omega) (by omega), show ((n : Int) / (u : Int)) = ((n / u : Nat) : Int) by simp, i32_nI (Int.natCast_nonneg _), Int.toNat_natCast]
    rw [e1]
    exact k H locs LS hR hS hL
theorem k_irem (S : Mach K KX D own mn cc nL dep mc ms hh rp) {x y : Int} (d : decode cc pc = .ok (.irem, 1)) (h1 : 0 ≤ x ∧ x < 2147483648) (h2 : 0 < y ∧ y < 2147483648) (k : K (pc + 1) ls (gI (x % y) :: st) h a b) : K pc ls (gI y :: gI x :: st) h a b := by
  obtain ⟨p, l, e, R, s, m, args, below, meth, c, Q, ⟨hx, hb, hown, hlk, hlD, hst, hKn, hmn⟩, hml, ⟨hRf, hRl, hRc, hRs⟩, htab, rfl, rfl, hrp⟩ := S
  intro H locs LS hR hS hL
  refine lv_irem hx hb d (fun z => ?_) ?_
  · rw [show (0 : Int32) = Int32.ofInt 0 from rfl, i32_eq (by omega) (by omega)] at z
    omega
  · have e1 : Int32.ofInt x - Int32.ofInt x / Int32.ofInt y * Int32.ofInt y = Int32.ofInt (x % y) := by
      obtain ⟨n, rfl⟩ := Int.eq_ofNat_of_zero_le h1.1
      obtain ⟨u, rfl⟩ := Int.eq_ofNat_of_zero_le (Int.le_of_lt h2.1)
      rw [i32_nI (by omega), i32_nI (by omega), Int.toNat_natCast, Int.toNat_natCast, pk_rem (by omega) (by omega) (by omega), ← Int.natCast_emod, i32_nI (by omega), Int.toNat_natCast]
    first | rw [e1]; exact k H locs LS hR hS hL | (have hk := k H locs LS hR hS hL; simp only [List.map_cons, tv] at hk; rw [← e1] at hk; exact hk)
theorem i32_c (x : Int) : ((Int32.ofInt x).toUInt32 % 65536).toInt32 = Int32.ofInt (x % 65536) := by
  rw [pk_char, i32_nI (Int.emod_nonneg _ (by omega))]
  congr 1
  have h1 : (Int32.ofInt x).toBitVec.toNat = (x % 4294967296).toNat := by
    show (BitVec.ofInt 32 x).toNat = _
    rw [BitVec.toNat_ofInt]
    rfl
  rw [h1]
  omega
theorem k_i2c (S : Mach K KX D own mn cc nL dep mc ms hh rp) {x : Int} (d : decode cc pc = .ok (.i2c, 1)) (k : K (pc + 1) ls (gI (x % 65536) :: st) h a b) : K pc ls (gI x :: st) h a b := by
  obtain ⟨p, l, e, R, s, m, args, below, meth, c, Q, ⟨hx, hb, hown, hlk, hlD, hst, hKn, hmn⟩, hml, ⟨hRf, hRl, hRc, hRs⟩, htab, rfl, rfl, hrp⟩ := S
  intro H locs LS hR hS hL
  exact lv_i2c hx hb d (i32_c x) (k H locs LS hR hS hL)
theorem k_i2l (S : Mach K KX D own mn cc nL dep mc ms hh rp) {x : Int} (d : decode cc pc = .ok (.i2l, 1)) (h1 : -2147483648 ≤ x ∧ x < 2147483648) (k : K (pc + 1) ls (gL x :: st) h a b) : K pc ls (gI x :: st) h a b := by
  obtain ⟨p, l, e, R, s, m, args, below, meth, c, Q, ⟨hx, hb, hown, hlk, hlD, hst, hKn, hmn⟩, hml, ⟨hRf, hRl, hRc, hRs⟩, htab, rfl, rfl, hrp⟩ := S
  intro H locs LS hR hS hL
  refine lv_i2l hx hb d (v := Int64.ofInt x) ?_ (k H locs LS hR hS hL)
  apply Int64.toInt_inj.mp
  rw [Int32.toInt_toInt64, i32 h1, i64 (by omega)]
theorem k_ladd (S : Mach K KX D own mn cc nL dep mc ms hh rp) {x y : Int} (d : decode cc pc = .ok (.ladd, 1)) (k : K (pc + 1) ls (gL (x + y) :: st) h a b) : K pc ls (gL y :: gL x :: st) h a b := by
  obtain ⟨p, l, e, R, s, m, args, below, meth, c, Q, ⟨hx, hb, hown, hlk, hlD, hst, hKn, hmn⟩, hml, ⟨hRf, hRl, hRc, hRs⟩, htab, rfl, rfl, hrp⟩ := S
  intro H locs LS hR hS hL
  refine lv_ladd hx hb d ?_
  rw [← Int64.ofInt_add]
  exact k H locs LS hR hS hL
theorem k_lsub (S : Mach K KX D own mn cc nL dep mc ms hh rp) {x y : Int} (d : decode cc pc = .ok (.lsub, 1)) (k : K (pc + 1) ls (gL (x - y) :: st) h a b) : K pc ls (gL y :: gL x :: st) h a b := by
  obtain ⟨p, l, e, R, s, m, args, below, meth, c, Q, ⟨hx, hb, hown, hlk, hlD, hst, hKn, hmn⟩, hml, ⟨hRf, hRl, hRc, hRs⟩, htab, rfl, rfl, hrp⟩ := S
  intro H locs LS hR hS hL
  refine lv_lsub hx hb d ?_
  rw [← Int64.ofInt_sub]
  exact k H locs LS hR hS hL
theorem k_i2f (S : Mach K KX D own mn cc nL dep mc ms hh rp) {x : Int} (d : decode cc pc = .ok (.i2f, 1)) (k : K (pc + 1) ls (gF (FP.i2f (Int32.ofInt x)) :: st) h a b) : K pc ls (gI x :: st) h a b := by
  obtain ⟨p, l, e, R, s, m, args, below, meth, c, Q, ⟨hx, hb, hown, hlk, hlD, hst, hKn, hmn⟩, hml, ⟨hRf, hRl, hRc, hRs⟩, htab, rfl, rfl, hrp⟩ := S
  intro H locs LS hR hS hL
  exact lv_i2f hx hb d (k H locs LS hR hS hL)
theorem k_fdiv (S : Mach K KX D own mn cc nL dep mc ms hh rp) {x y : UInt32} (d : decode cc pc = .ok (.fdiv, 1)) (hne : vf_n32 (FP.fdiv x y)) (k : K (pc + 1) ls (gF (FP.fdiv x y) :: st) h a b) : K pc ls (gF y :: gF x :: st) h a b := by
  obtain ⟨p, l, e, R, s, m, args, below, meth, c, Q, ⟨hx, hb, hown, hlk, hlD, hst, hKn, hmn⟩, hml, ⟨hRf, hRl, hRc, hRs⟩, htab, rfl, rfl, hrp⟩ := S
  intro H locs LS hR hS hL
  exact lv_fdiv hx hb d hne (k H locs LS hR hS hL)
theorem k_f2d (S : Mach K KX D own mn cc nL dep mc ms hh rp) {x : UInt32} (d : decode cc pc = .ok (.f2d, 1)) (hne : vf_n64 (FP.f2d x)) (k : K (pc + 1) ls (gD (FP.f2d x) :: st) h a b) : K pc ls (gF x :: st) h a b := by
  obtain ⟨p, l, e, R, s, m, args, below, meth, c, Q, ⟨hx, hb, hown, hlk, hlD, hst, hKn, hmn⟩, hml, ⟨hRf, hRl, hRc, hRs⟩, htab, rfl, rfl, hrp⟩ := S
  intro H locs LS hR hS hL
  exact lv_f2d hx hb d hne (k H locs LS hR hS hL)
theorem k_fcmp (S : Mach K KX D own mn cc nL dep mc ms hh rp) {x y : UInt32} {op : CmpOp} (d : decode cc pc = .ok (.fcmp op, 1)) (k : K (pc + 1) ls (gI (Op.cmpValue (FP.fcmp x y) op).toInt :: st) h a b) : K pc ls (gF y :: gF x :: st) h a b := by
  obtain ⟨p, l, e, R, s, m, args, below, meth, c, Q, ⟨hx, hb, hown, hlk, hlD, hst, hKn, hmn⟩, hml, ⟨hRf, hRl, hRc, hRs⟩, htab, rfl, rfl, hrp⟩ := S
  intro H locs LS hR hS hL
  refine lv_fcmp hx hb d ?_
  have hk := k H locs LS hR hS hL
  simp only [List.map_cons, tv, Int32.ofInt_toInt] at hk
  exact hk
theorem k_dcmp (S : Mach K KX D own mn cc nL dep mc ms hh rp) {x y : UInt64} {op : CmpOp} (d : decode cc pc = .ok (.dcmp op, 1)) (k : K (pc + 1) ls (gI (Op.cmpValue (FP.dcmp x y) op).toInt :: st) h a b) : K pc ls (gD y :: gD x :: st) h a b := by
  obtain ⟨p, l, e, R, s, m, args, below, meth, c, Q, ⟨hx, hb, hown, hlk, hlD, hst, hKn, hmn⟩, hml, ⟨hRf, hRl, hRc, hRs⟩, htab, rfl, rfl, hrp⟩ := S
  intro H locs LS hR hS hL
  refine lv_dcmp hx hb d ?_
  have hk := k H locs LS hR hS hL
  simp only [List.map_cons, tv, Int32.ofInt_toInt] at hk
  exact hk
theorem k_lcmp (S : Mach K KX D own mn cc nL dep mc ms hh rp) {x y : Int} (d : decode cc pc = .ok (.lcmp, 1)) (h1 : -9223372036854775808 ≤ x ∧ x < 9223372036854775808) (h2 : -9223372036854775808 ≤ y ∧ y < 9223372036854775808) (k : K (pc + 1) ls (gI (if x < y then -1 else if x = y then 0 else 1) :: st) h a b) : K pc ls (gL y :: gL x :: st) h a b := by
  obtain ⟨p, l, e, R, s, m, args, below, meth, c, Q, ⟨hx, hb, hown, hlk, hlD, hst, hKn, hmn⟩, hml, ⟨hRf, hRl, hRc, hRs⟩, htab, rfl, rfl, hrp⟩ := S
  intro H locs LS hR hS hL
  refine W.lcmp hx hb d ?_
  have e1 : lg_cmp (Int64.ofInt x) (Int64.ofInt y) = Int32.ofInt (if x < y then -1 else if x = y then 0 else 1) := by
    unfold lg_cmp
    simp only [Int64.lt_iff_toInt_lt, ← Int64.toInt_inj, i64 h1, i64 h2]
    repeat' split
    all_goals first | rfl | omega
  rw [e1]
  exact k H locs LS hR hS hL
theorem k_dup (S : Mach K KX D own mn cc nL dep mc ms hh rp) {v : GV} (d : decode cc pc = .ok (.dup, 1)) (k : K (pc + 1) ls (v :: v :: st) h a b) (hc : gcat v = 1 := by rfl) : K pc ls (v :: st) h a b := by
  obtain ⟨p, l, e, R, s, m, args, below, meth, c, Q, ⟨hx, hb, hown, hlk, hlD, hst, hKn, hmn⟩, hml, ⟨hRf, hRl, hRc, hRs⟩, htab, rfl, rfl, hrp⟩ := S
  intro H locs LS hR hS hL
  exact lv_dup hx hb d ((tv_cat v).trans hc) (k H locs LS hR hS hL)
theorem k_pop (S : Mach K KX D own mn cc nL dep mc ms hh rp) {v : GV} (d : decode cc pc = .ok (.pop, 1)) (k : K (pc + 1) ls st h a b) (hc : gcat v = 1 := by rfl) : K pc ls (v :: st) h a b := by
  obtain ⟨p, l, e, R, s, m, args, below, meth, c, Q, ⟨hx, hb, hown, hlk, hlD, hst, hKn, hmn⟩, hml, ⟨hRf, hRl, hRc, hRs⟩, htab, rfl, rfl, hrp⟩ := S
  intro H locs LS hR hS hL
  exact lv_pop hx hb d ((tv_cat v).trans hc) (k H locs LS hR hS hL)
theorem k_dup_x1 (S : Mach K KX D own mn cc nL dep mc ms hh rp) {v u : GV} (d : decode cc pc = .ok (.dup_x1, 1)) (k : K (pc + 1) ls (v :: u :: v :: st) h a b) (hc : gcat v = 1 := by rfl) (hc2 : gcat u = 1 := by rfl) : K pc ls (v :: u :: st) h a b := by
  obtain ⟨p, l, e, R, s, m, args, below, meth, c, Q, ⟨hx, hb, hown, hlk, hlD, hst, hKn, hmn⟩, hml, ⟨hRf, hRl, hRc, hRs⟩, htab, rfl, rfl, hrp⟩ := S
  intro H locs LS hR hS hL
  exact lv_dup_x1 hx hb d ((tv_cat v).trans hc) ((tv_cat u).trans hc2) (k H locs LS hR hS hL)
theorem k_dup_x2 (S : Mach K KX D own mn cc nL dep mc ms hh rp) {v u z : GV} (d : decode cc pc = .ok (.dup_x2, 1)) (k : K (pc + 1) ls (v :: u :: z :: v :: st) h a b) (hc : gcat v = 1 := by rfl) (hc2 : gcat u = 1 := by rfl) (hc3 : gcat z = 1 := by rfl) : K pc ls (v :: u :: z :: st) h a b := by
  obtain ⟨p, l, e, R, s, m, args, below, meth, c, Q, ⟨hx, hb, hown, hlk, hlD, hst, hKn, hmn⟩, hml, ⟨hRf, hRl, hRc, hRs⟩, htab, rfl, rfl, hrp⟩ := S
  intro H locs LS hR hS hL
  exact lv_dup_x2 hx hb d ((tv_cat v).trans hc) ((tv_cat u).trans hc2) ((tv_cat z).trans hc3) (k H locs LS hR hS hL)
theorem k_dup2 (S : Mach K KX D own mn cc nL dep mc ms hh rp) {v u : GV} (d : decode cc pc = .ok (.dup2, 1)) (k : K (pc + 1) ls (v :: u :: v :: u :: st) h a b) (hc : gcat v = 1 := by rfl) (hc2 : gcat u = 1 := by rfl) : K pc ls (v :: u :: st) h a b := by
  obtain ⟨p, l, e, R, s, m, args, below, meth, c, Q, ⟨hx, hb, hown, hlk, hlD, hst, hKn, hmn⟩, hml, ⟨hRf, hRl, hRc, hRs⟩, htab, rfl, rfl, hrp⟩ := S
  intro H locs LS hR hS hL
  exact lv_dup2_11 hx hb d ((tv_cat v).trans hc) ((tv_cat u).trans hc2) (k H locs LS hR hS hL)
theorem k_icmp_eq (S : Mach K KX D own mn cc nL dep mc ms hh rp) {x y : Int} {off : Int} {tgt : Nat} (d : decode cc pc = .ok (.if_icmp .eq off, 3)) (ht : (pc : Int) + off = (tgt : Int)) (h1 : -2147483648 ≤ x ∧ x < 2147483648) (h2 : -2147483648 ≤ y ∧ y < 2147483648) (kt : x = y → K tgt ls st h a b) (kf : ¬ x = y → K (pc + 3) ls st h a b) : K pc ls (gI y :: gI x :: st) h a b := by
  obtain ⟨p, l, e, R, s, m, args, below, meth, c, Q, ⟨hx, hb, hown, hlk, hlD, hst, hKn, hmn⟩, hml, ⟨hRf, hRl, hRc, hRs⟩, htab, rfl, rfl, hrp⟩ := S
  intro H locs LS hR hS hL
  exact lv_icmp_eq hx hb d ht (fun z => kt ((i32_eq h1 h2).mp z) H locs LS hR hS hL) (fun z => kf (fun q => z ((i32_eq h1 h2).mpr q)) H locs LS hR hS hL)
theorem k_if_eq (S : Mach K KX D own mn cc nL dep mc ms hh rp) {x : Int} {off : Int} {tgt : Nat} (d : decode cc pc = .ok (.ifCond .eq off, 3)) (ht : (pc : Int) + off = (tgt : Int)) (h1 : -2147483648 ≤ x ∧ x < 2147483648) (kt : x = 0 → K tgt ls st h a b) (kf : ¬ x = 0 → K (pc + 3) ls st h a b) : K pc ls (gI x :: st) h a b := by
  obtain ⟨p, l, e, R, s, m, args, below, meth, c, Q, ⟨hx, hb, hown, hlk, hlD, hst, hKn, hmn⟩, hml, ⟨hRf, hRl, hRc, hRs⟩, htab, rfl, rfl, hrp⟩ := S
  intro H locs LS hR hS hL
  exact lv_if_eq hx hb d ht (fun z => kt ((i32_eq h1 (show -2147483648 ≤ (0 : Int) ∧ (0 : Int) < 2147483648 by omega)).mp z) H locs LS hR hS hL) (fun z => kf (fun q => z ((i32_eq h1 (show -2147483648 ≤ (0 : Int) ∧ (0 : Int) < 2147483648 by omega)).mpr q)) H locs LS hR hS hL)
theorem k_icmp_ne (S : Mach K KX D own mn cc nL dep mc ms hh rp) {x y : Int} {off : Int} {tgt : Nat} (d : decode cc pc = .ok (.if_icmp .ne off, 3)) (ht : (pc : Int) + off = (tgt : Int)) (h1 : -2147483648 ≤ x ∧ x < 2147483648) (h2 : -2147483648 ≤ y ∧ y < 2147483648) (kt : ¬ x = y → K tgt ls st h a b) (kf : x = y → K (pc + 3) ls st h a b) : K pc ls (gI y :: gI x :: st) h a b := by
  obtain ⟨p, l, e, R, s, m, args, below, meth, c, Q, ⟨hx, hb, hown, hlk, hlD, hst, hKn, hmn⟩, hml, ⟨hRf, hRl, hRc, hRs⟩, htab, rfl, rfl, hrp⟩ := S
  intro H locs LS hR hS hL
  exact lv_icmp_ne hx hb d ht (fun z => kt (fun q => z ((i32_eq h1 h2).mpr q)) H locs LS hR hS hL) (fun z => kf ((i32_eq h1 h2).mp z) H locs LS hR hS hL)
theorem k_if_ne (S : Mach K KX D own mn cc nL dep mc ms hh rp) {x : Int} {off : Int} {tgt : Nat} (d : decode cc pc = .ok (.ifCond .ne off, 3)) (ht : (pc : Int) + off = (tgt : Int)) (h1 : -2147483648 ≤ x ∧ x < 2147483648) (kt : ¬ x = 0 → K tgt ls st h a b) (kf : x = 0 → K (pc + 3) ls st h a b) : K pc ls (gI x :: st) h a b := by
  obtain ⟨p, l, e, R, s, m, args, below, meth, c, Q, ⟨hx, hb, hown, hlk, hlD, hst, hKn, hmn⟩, hml, ⟨hRf, hRl, hRc, hRs⟩, htab, rfl, rfl, hrp⟩ := S
  intro H locs LS hR hS hL
  exact lv_if_ne hx hb d ht (fun z => kt (fun q => z ((i32_eq h1 (show -2147483648 ≤ (0 : Int) ∧ (0 : Int) < 2147483648 by omega)).mpr q)) H locs LS hR hS hL) (fun z => kf ((i32_eq h1 (show -2147483648 ≤ (0 : Int) ∧ (0 : Int) < 2147483648 by omega)).mp z) H locs LS hR hS hL)
theorem k_icmp_lt (S : Mach K KX D own mn cc nL dep mc ms hh rp) {x y : Int} {off : Int} {tgt : Nat} (d : decode cc pc = .ok (.if_icmp .lt off, 3)) (ht : (pc : Int) + off = (tgt : Int)) (h1 : -2147483648 ≤ x ∧ x < 2147483648) (h2 : -2147483648 ≤ y ∧ y < 2147483648) (kt : x < y → K tgt ls st h a b) (kf : ¬ x < y → K (pc + 3) ls st h a b) : K pc ls (gI y :: gI x :: st) h a b := by
  obtain ⟨p, l, e, R, s, m, args, below, meth, c, Q, ⟨hx, hb, hown, hlk, hlD, hst, hKn, hmn⟩, hml, ⟨hRf, hRl, hRc, hRs⟩, htab, rfl, rfl, hrp⟩ := S
  intro H locs LS hR hS hL
  exact lv_icmp_lt hx hb d ht (fun z => kt ((i32_lt h1 h2).mp z) H locs LS hR hS hL) (fun z => kf (fun q => z ((i32_lt h1 h2).mpr q)) H locs LS hR hS hL)
theorem k_if_lt (S : Mach K KX D own mn cc nL dep mc ms hh rp) {x : Int} {off : Int} {tgt : Nat} (d : decode cc pc = .ok (.ifCond .lt off, 3)) (ht : (pc : Int) + off = (tgt : Int)) (h1 : -2147483648 ≤ x ∧ x < 2147483648) (kt : x < 0 → K tgt ls st h a b) (kf : ¬ x < 0 → K (pc + 3) ls st h a b) : K pc ls (gI x :: st) h a b := by
  obtain ⟨p, l, e, R, s, m, args, below, meth, c, Q, ⟨hx, hb, hown, hlk, hlD, hst, hKn, hmn⟩, hml, ⟨hRf, hRl, hRc, hRs⟩, htab, rfl, rfl, hrp⟩ := S
  intro H locs LS hR hS hL
  exact lv_if_lt hx hb d ht (fun z => kt ((i32_lt h1 (show -2147483648 ≤ (0 : Int) ∧ (0 : Int) < 2147483648 by omega)).mp z) H locs LS hR hS hL) (fun z => kf (fun q => z ((i32_lt h1 (show -2147483648 ≤ (0 : Int) ∧ (0 : Int) < 2147483648 by omega)).mpr q)) H locs LS hR hS hL)
theorem k_icmp_ge (S : Mach K KX D own mn cc nL dep mc ms hh rp) {x y : Int} {off : Int} {tgt : Nat} (d : decode cc pc = .ok (.if_icmp .ge off, 3)) (ht : (pc : Int) + off = (tgt : Int)) (h1 : -2147483648 ≤ x ∧ x < 2147483648) (h2 : -2147483648 ≤ y ∧ y < 2147483648) (kt : y ≤ x → K tgt ls st h a b) (kf : ¬ y ≤ x → K (pc + 3) ls st h a b) : K pc ls (gI y :: gI x :: st) h a b := by
  obtain ⟨p, l, e, R, s, m, args, below, meth, c, Q, ⟨hx, hb, hown, hlk, hlD, hst, hKn, hmn⟩, hml, ⟨hRf, hRl, hRc, hRs⟩, htab, rfl, rfl, hrp⟩ := S
  intro H locs LS hR hS hL
  exact lv_icmp_ge hx hb d ht (fun z => kt ((i32_le h2 h1).mp z) H locs LS hR hS hL) (fun z => kf (fun q => z ((i32_le h2 h1).mpr q)) H locs LS hR hS hL)
theorem k_if_ge (S : Mach K KX D own mn cc nL dep mc ms hh rp) {x : Int} {off : Int} {tgt : Nat} (d : decode cc pc = .ok (.ifCond .ge off, 3)) (ht : (pc : Int) + off = (tgt : Int)) (h1 : -2147483648 ≤ x ∧ x < 2147483648) (kt : 0 ≤ x → K tgt ls st h a b) (kf : ¬ 0 ≤ x → K (pc + 3) ls st h a b) : K pc ls (gI x :: st) h a b := by
  obtain ⟨p, l, e, R, s, m, args, below, meth, c, Q, ⟨hx, hb, hown, hlk, hlD, hst, hKn, hmn⟩, hml, ⟨hRf, hRl, hRc, hRs⟩, htab, rfl, rfl, hrp⟩ := S
  intro H locs LS hR hS hL
  exact lv_if_ge hx hb d ht (fun z => kt ((i32_le (show -2147483648 ≤ (0 : Int) ∧ (0 : Int) < 2147483648 by omega) h1).mp z) H locs LS hR hS hL) (fun z => kf (fun q => z ((i32_le (show -2147483648 ≤ (0 : Int) ∧ (0 : Int) < 2147483648 by omega) h1).mpr q)) H locs LS hR hS hL)
theorem k_icmp_gt (S : Mach K KX D own mn cc nL dep mc ms hh rp) {x y : Int} {off : Int} {tgt : Nat} (d : decode cc pc = .ok (.if_icmp .gt off, 3)) (ht : (pc : Int) + off = (tgt : Int)) (h1 : -2147483648 ≤ x ∧ x < 2147483648) (h2 : -2147483648 ≤ y ∧ y < 2147483648) (kt : y < x → K tgt ls st h a b) (kf : ¬ y < x → K (pc + 3) ls st h a b) : K pc ls (gI y :: gI x :: st) h a b := by
  obtain ⟨p, l, e, R, s, m, args, below, meth, c, Q, ⟨hx, hb, hown, hlk, hlD, hst, hKn, hmn⟩, hml, ⟨hRf, hRl, hRc, hRs⟩, htab, rfl, rfl, hrp⟩ := S
  intro H locs LS hR hS hL
  exact lv_icmp_gt hx hb d ht (fun z => kt ((i32_lt h2 h1).mp z) H locs LS hR hS hL) (fun z => kf (fun q => z ((i32_lt h2 h1).mpr q)) H locs LS hR hS hL)
theorem k_if_gt (S : Mach K KX D own mn cc nL dep mc ms hh rp) {x : Int} {off : Int} {tgt : Nat} (d : decode cc pc = .ok (.ifCond .gt off, 3)) (ht : (pc : Int) + off = (tgt : Int)) (h1 : -2147483648 ≤ x ∧ x < 2147483648) (kt : 0 < x → K tgt ls st h a b) (kf : ¬ 0 < x → K (pc + 3) ls st h a b) : K pc ls (gI x :: st) h a b := by
  obtain ⟨p, l, e, R, s, m, args, below, meth, c, Q, ⟨hx, hb, hown, hlk, hlD, hst, hKn, hmn⟩, hml, ⟨hRf, hRl, hRc, hRs⟩, htab, rfl, rfl, hrp⟩ := S
  intro H locs LS hR hS hL
  exact lv_if_gt hx hb d ht (fun z => kt ((i32_lt (show -2147483648 ≤ (0 : Int) ∧ (0 : Int) < 2147483648 by omega) h1).mp z) H locs LS hR hS hL) (fun z => kf (fun q => z ((i32_lt (show -2147483648 ≤ (0 : Int) ∧ (0 : Int) < 2147483648 by omega) h1).mpr q)) H locs LS hR hS hL)
theorem k_icmp_le (S : Mach K KX D own mn cc nL dep mc ms hh rp) {x y : Int} {off : Int} {tgt : Nat} (d : decode cc pc = .ok (.if_icmp .le off, 3)) (ht : (pc : Int) + off = (tgt : Int)) (h1 : -2147483648 ≤ x ∧ x < 2147483648) (h2 : -2147483648 ≤ y ∧ y < 2147483648) (kt : x ≤ y → K tgt ls st h a b) (kf : ¬ x ≤ y → K (pc + 3) ls st h a b) : K pc ls (gI y :: gI x :: st) h a b := by
  obtain ⟨p, l, e, R, s, m, args, below, meth, c, Q, ⟨hx, hb, hown, hlk, hlD, hst, hKn, hmn⟩, hml, ⟨hRf, hRl, hRc, hRs⟩, htab, rfl, rfl, hrp⟩ := S
  intro H locs LS hR hS hL
  exact lv_icmp_le hx hb d ht (fun z => kt ((i32_le h1 h2).mp z) H locs LS hR hS hL) (fun z => kf (fun q => z ((i32_le h1 h2).mpr q)) H locs LS hR hS hL)
theorem k_if_le (S : Mach K KX D own mn cc nL dep mc ms hh rp) {x : Int} {off : Int} {tgt : Nat} (d : decode cc pc = .ok (.ifCond .le off, 3)) (ht : (pc : Int) + off = (tgt : Int)) (h1 : -2147483648 ≤ x ∧ x < 2147483648) (kt : x ≤ 0 → K tgt ls st h a b) (kf : ¬ x ≤ 0 → K (pc + 3) ls st h a b) : K pc ls (gI x :: st) h a b := by
  obtain ⟨p, l, e, R, s, m, args, below, meth, c, Q, ⟨hx, hb, hown, hlk, hlD, hst, hKn, hmn⟩, hml, ⟨hRf, hRl, hRc, hRs⟩, htab, rfl, rfl, hrp⟩ := S
  intro H locs LS hR hS hL
  exact lv_if_le hx hb d ht (fun z => kt ((i32_le h1 (show -2147483648 ≤ (0 : Int) ∧ (0 : Int) < 2147483648 by omega)).mp z) H locs LS hR hS hL) (fun z => kf (fun q => z ((i32_le h1 (show -2147483648 ≤ (0 : Int) ∧ (0 : Int) < 2147483648 by omega)).mpr q)) H locs LS hR hS hL)
theorem k_acmp_eq (S : Mach K KX D own mn cc nL dep mc ms hh rp) {x y : Option Nat} {off : Int} {tgt : Nat} (d : decode cc pc = .ok (.if_acmp .eq off, 3)) (ht : (pc : Int) + off = (tgt : Int)) (kt : x = y → K tgt ls st h a b) (kf : ¬ x = y → K (pc + 3) ls st h a b) : K pc ls (gR y :: gR x :: st) h a b := by
  obtain ⟨p, l, e, R, s, m, args, below, meth, c, Q, ⟨hx, hb, hown, hlk, hlD, hst, hKn, hmn⟩, hml, ⟨hRf, hRl, hRc, hRs⟩, htab, rfl, rfl, hrp⟩ := S
  intro H locs LS hR hS hL
  exact lv_acmp_eq hx hb d ht (fun z => kt z H locs LS hR hS hL) (fun z => kf z H locs LS hR hS hL)
theorem k_acmp_ne (S : Mach K KX D own mn cc nL dep mc ms hh rp) {x y : Option Nat} {off : Int} {tgt : Nat} (d : decode cc pc = .ok (.if_acmp .ne off, 3)) (ht : (pc : Int) + off = (tgt : Int)) (kt : ¬ x = y → K tgt ls st h a b) (kf : x = y → K (pc + 3) ls st h a b) : K pc ls (gR y :: gR x :: st) h a b := by
  obtain ⟨p, l, e, R, s, m, args, below, meth, c, Q, ⟨hx, hb, hown, hlk, hlD, hst, hKn, hmn⟩, hml, ⟨hRf, hRl, hRc, hRs⟩, htab, rfl, rfl, hrp⟩ := S
  intro H locs LS hR hS hL
  exact lv_acmp_ne hx hb d ht (fun z => kt z H locs LS hR hS hL) (fun z => kf z H locs LS hR hS hL)
theorem k_goto (S : Mach K KX D own mn cc nL dep mc ms hh rp) {off : Int} {tgt : Nat} (d : decode cc pc = .ok (.goto off, 3)) (ht : (pc : Int) + off = (tgt : Int)) (k : K tgt ls st h a b) : K pc ls st h a b := by
  obtain ⟨p, l, e, R, s, m, args, below, meth, c, Q, ⟨hx, hb, hown, hlk, hlD, hst, hKn, hmn⟩, hml, ⟨hRf, hRl, hRc, hRs⟩, htab, rfl, rfl, hrp⟩ := S
  intro H locs LS hR hS hL
  exact lv_goto hx hb d ht (k H locs LS hR hS hL)
theorem k_tblIn (S : Mach K KX D own mn cc nL dep mc ms hh rp) {dflt lo hi : Int} {offs : Array Int} {len : Nat} {x : Int} {off : Int} {tgt : Nat} (d : decode cc pc = .ok (.tableswitch dflt lo hi offs, len)) (h1 : -2147483648 ≤ x ∧ x < 2147483648) (hlo : ¬ x < lo) (hhi : ¬ hi < x) (ho : offs[(x - lo).toNat]? = some off) (ht : (pc : Int) + off = (tgt : Int)) (k : K tgt ls st h a b) : K pc ls (gI x :: st) h a b := by
  obtain ⟨p, l, e, R, s, m, args, below, meth, c, Q, ⟨hx, hb, hown, hlk, hlD, hst, hKn, hmn⟩, hml, ⟨hRf, hRl, hRc, hRs⟩, htab, rfl, rfl, hrp⟩ := S
  intro H locs LS hR hS hL
  exact lv_tableIn hx hb d (by rw [i32 h1]; exact hlo) (by rw [i32 h1]; exact hhi) (by rw [i32 h1]; exact ho) ht (k H locs LS hR hS hL)
theorem k_tblOut (S : Mach K KX D own mn cc nL dep mc ms hh rp) {dflt lo hi : Int} {offs : Array Int} {len : Nat} {x : Int} {tgt : Nat} (d : decode cc pc = .ok (.tableswitch dflt lo hi offs, len)) (h1 : -2147483648 ≤ x ∧ x < 2147483648) (ho : x < lo ∨ hi < x) (ht : (pc : Int) + dflt = (tgt : Int)) (k : K tgt ls st h a b) : K pc ls (gI x :: st) h a b := by
  obtain ⟨p, l, e, R, s, m, args, below, meth, c, Q, ⟨hx, hb, hown, hlk, hlD, hst, hKn, hmn⟩, hml, ⟨hRf, hRl, hRc, hRs⟩, htab, rfl, rfl, hrp⟩ := S
  intro H locs LS hR hS hL
  exact lv_tableOut hx hb d (by rw [i32 h1]; exact ho) ht (k H locs LS hR hS hL)
theorem k_widen (S : Mach K KX D own mn cc nL dep mc ms hh rp) {a1 b1 : Nat} (h1 : a ≤ a1) (h2 : b ≤ b1) (k : K pc ls st h a1 b1) : K pc ls st h a b := by
  obtain ⟨p, l, e, R, s, m, args, below, meth, c, Q, ⟨hx, hb, hown, hlk, hlD, hst, hKn, hmn⟩, hml, ⟨hRf, hRl, hRc, hRs⟩, htab, rfl, rfl, hrp⟩ := S
  intro H locs LS hR hS hL
  exact W.widen h1 h2 (k H locs LS hR hS hL)
end RW1
