/-! the class's state, in the words of the model's arrays -/
def pkK (k : Int) : Nat := if k = 99 then 0 else if k = 115 ∨ k = 111 then 1 else if k = 100 then 2 else 3
theorem pkK_lt (k : Int) : pkK k < 4 := by unfold pkK; split <;> (try split) <;> (try split) <;> omega
def pk2 (kd on ot : Nat → Int) (p : Nat) : Int := if kd p = 115 then on p else ot p
def XPs (D : DD) (h : GH) (τ A : Nat → Nat) (k n : Nat) (kd on ot : Nat → Int) : Prop := XPrt D h τ A k n (fun j => pkK (kd (12 * k + j))) (fun j => on (12 * k + j)) (fun j => pk2 kd on ot (12 * k + j))
def XSn (D : DD) (h : GH) (τ A : Nat → Nat) (n : Nat) (fw of sc sz he : Nat → Int) (re : Nat → Nat) (le tg pn kd on ot : Nat → Int) : Prop :=
  XLst D h τ (A 1) 2 n (fun k => A (10 + k)) ∧ (∀ k, k < n → XSob h τ A k (fw k) (1 - of k) (sc k) (sz k) (he k) (re k)) ∧ (∀ k, k < n → XTrg h τ A k (le k).toNat (fun j => tg (6 * k + j))) ∧ (∀ k, k < n → XPs D h τ A k (pn k).toNat kd on ot)
def XGft (h : GH) (τ : Nat → Nat) (g : Nat) (cl sl : List Int) : Prop := ∃ rc ac rs as_ : Nat, IsGift h g rc ac rs as_ cl sl ∧ ∀ q, tP g rc ac rs as_ q → τ q = 4
/-- the tree of the first n triggers -/
def XTre (h : GH) (τ : Nat → Nat) (t n : Nat) (le tg : Nat → Int) : Prop := ∃ (m : Nat) (P C E : Nat → Int), IsTree h τ t m P C E ∧ twf m P C ∧ m ≤ 49 ∧ (∀ k, k < n → 0 < le k → ∃ j, j < m ∧ isP P C (fun i => tg (6 * k + i)) (le k).toNat 0 j) ∧ ∀ j, j < m → ∃ e : Nat, E j = (e : Nat) ∧ e < 256 ∧ ∀ k, k < 8 → (e.testBit k = true ↔ k < n ∧ 0 < le k ∧ isP P C (fun i => tg (6 * k + i)) (le k).toNat 0 j)
/-- a contract's answer may say less -/
theorem GMet.mono {D : DD} {y : MethodName} {cc : ByteArray} {maxL : Nat} {ret : Option FieldType} {hh : List (Nat × Nat × Nat × Nat)} {dep mc ms : Nat} {args : List GV} {h : GH} {p1 p2 : GO → GH → Prop} (M : GMet D y cc maxL ret hh dep mc ms args h p1) (hp : ∀ o h1, p1 o h1 → p2 o h1) : GMet D y cc maxL ret hh dep mc ms args h p2 := by
  intro hl p e ha hf hc s m a below hfr hap hP hK
  obtain ⟨n, o, k1, k2, k3, k4⟩ := M hl p e ha hf hc s m a below hfr hap hP hK
  refine ⟨n, o, k1, k2, k3, ?_⟩
  rcases k4 with ⟨⟨r, h1, e1, e2, e3, e4⟩, k5⟩ | ⟨q, e1, E, ce, L, ⟨h1, x1, x2⟩, k6⟩
  · exact Or.inl ⟨⟨r, h1, e1, hp _ _ e2, e3, e4⟩, k5⟩
  · exact Or.inr ⟨q, e1, E, ce, L, ⟨h1, hp _ _ x1, x2⟩, k6⟩
theorem GMet.pvm {D : DD} {y : MethodName} {cc : ByteArray} {maxL : Nat} {hh : List (Nat × Nat × Nat × Nat)} {dep mc ms : Nat} {args : List GV} {h : GH} {P Q : GH → Prop} (M : GMet D y cc maxL none hh dep mc ms args h (pv P)) (hp : ∀ h1, P h1 → Q h1) : GMet D y cc maxL none hh dep mc ms args h (pv Q) := M.mono fun _ h1 z => ⟨z.1, hp h1 z.2⟩
section MV
variable {D : DD} {h h1 : GH} {τ τ1 A A1 : Nat → Nat} {P : Nat → Prop}
/-- nothing that is there changes its chunk -/
def rtg (h : GH) (τ τ1 : Nat → Nat) : Prop := ∀ q g, h q = some g → τ1 q = τ q
theorem rtg.rf : rtg h τ τ := fun _ _ _ => rfl
theorem XTop.mv {td cu lg sv ex un : Int} (hX : XTop h τ A td cu lg sv ex un) (hk : keeps h h1 P) (hn : ∀ q, τ q = 1 → ¬ P q) (ht : rtg h τ τ1) (hA : ∀ i, i < 6 → A1 i = A i) : XTop h1 τ1 A1 td cu lg sv ex un := by
  unfold XTop
  rw [hA 0 (by omega), hA 1 (by omega), hA 2 (by omega), hA 3 (by omega), hA 4 (by omega), hA 5 (by omega)]
  exact ⟨hk _ _ hX.1 (hn _ hX.2), (ht _ _ hX.1).trans hX.2⟩
theorem XLst.mv {l t n : Nat} {F F1 : Nat → Nat} (hL : XLst D h τ l t n F) (hk : keeps h h1 P) (hn : ∀ q, τ q = t → ¬ P q) (ht : rtg h τ τ1) (hF : ∀ i, i < n → F1 i = F i) : XLst D h1 τ1 l t n F1 := by
  obtain ⟨e, cap, f, ⟨⟨m, e1⟩, e2, e5⟩, e3, e4, e6⟩ := hL
  refine ⟨e, cap, f, ⟨⟨m, hk _ _ e1 (hn _ e4)⟩, ?_, e5⟩, fun i hi => by rw [hF i hi]; exact e3 i hi, (ht _ _ e1).trans e4, ?_⟩
  · rcases e2 with e2 | ⟨e2, e7⟩
    · exact Or.inl e2
    · exact Or.inr ⟨hk _ _ e2 (hn _ (e6 e7.1)), e7⟩
  · intro z
    rcases e2 with e2 | ⟨e2, e7⟩
    · exact absurd e2.1 z
    · exact (ht _ _ e2).trans (e6 z)
theorem XSob.mv {k : Nat} {fw on sc sz he : Int} {re : Nat} (hX : XSob h τ A k fw on sc sz he re) (hk : keeps h h1 P) (hn : ∀ q, τ q = 100 + k → ¬ P q) (ht : rtg h τ τ1) (hA : A1 (10 + k) = A (10 + k) ∧ A1 (20 + k) = A (20 + k) ∧ A1 (30 + k) = A (30 + k)) : XSob h1 τ1 A1 k fw on sc sz he re := by
  unfold XSob
  rw [hA.1, hA.2.1, hA.2.2]
  exact ⟨hk _ _ hX.1 (hn _ hX.2), (ht _ _ hX.1).trans hX.2⟩
theorem XTrg.mv {k n : Nat} {F : Nat → Int} (hX : XTrg h τ A k n F) (hk : keeps h h1 P) (hn : ∀ q, τ q = 200 + k → ¬ P q) (ht : rtg h τ τ1) (hA : A1 (30 + k) = A (30 + k)) : XTrg h1 τ1 A1 k n F := by
  obtain ⟨a, e1, e2, e3⟩ := hX
  obtain ⟨⟨g, s1⟩, ⟨g1, s2⟩⟩ := e1.som
  unfold XTrg
  rw [hA]
  exact ⟨a, e1.kp hk (hn _ e2) (hn _ e3), (ht _ _ s1).trans e2, (ht _ _ s2).trans e3⟩
theorem XPrt.mv {k n : Nat} {pk : Nat → Nat} {p1 p2 : Nat → Int} (hX : XPrt D h τ A k n pk p1 p2) (hk : keeps h h1 P) (hn : ∀ q, τ q = 300 + k ∨ τ q = 7 → ¬ P q) (ht : rtg h τ τ1) (hA : A1 (20 + k) = A (20 + k)) : XPrt D h1 τ1 A1 k n pk p1 p2 := by
  obtain ⟨F, e1, e2⟩ := hX
  unfold XPrt
  rw [hA]
  refine ⟨F, e1.mv hk (fun q e => hn q (Or.inl e)) ht (fun _ _ => rfl), fun j hj => ?_⟩
  obtain ⟨z1, z2, z3⟩ := e2 j hj
  exact ⟨hk _ _ z1 (hn _ (Or.inr z2)), (ht _ _ z1).trans z2, z3⟩
theorem XSn.mv {n : Nat} {fw of sc sz he : Nat → Int} {re : Nat → Nat} {le tg pn kd on ot : Nat → Int} (hX : XSn D h τ A n fw of sc sz he re le tg pn kd on ot) (hk : keeps h h1 P) (hn : ∀ q, (τ q = 2 ∨ τ q = 7 ∨ 100 ≤ τ q) → ¬ P q) (ht : rtg h τ τ1) (hA : A1 1 = A 1 ∧ ∀ k, k < n → A1 (10 + k) = A (10 + k) ∧ A1 (20 + k) = A (20 + k) ∧ A1 (30 + k) = A (30 + k)) : XSn D h1 τ1 A1 n fw of sc sz he re le tg pn kd on ot := by
  obtain ⟨e1, e2, e3, e4⟩ := hX
  refine ⟨?_, fun k hk9 => (e2 k hk9).mv hk (fun q e => hn q (by omega)) ht (hA.2 k hk9), fun k hk9 => (e3 k hk9).mv hk (fun q e => hn q (by omega)) ht (hA.2 k hk9).2.2, fun k hk9 => (e4 k hk9).mv hk (fun q e => hn q (by omega)) ht (hA.2 k hk9).2.1⟩
  rw [hA.1]
  exact e1.mv hk (fun q e => hn q (by omega)) ht (fun i hi => (hA.2 i hi).1)
theorem XSn.kp {n : Nat} {fw of sc sz he : Nat → Int} {re : Nat → Nat} {le tg pn kd on ot : Nat → Int} (hX : XSn D h τ A n fw of sc sz he re le tg pn kd on ot) (hk : keeps h h1 P) (hn : ∀ q, (τ q = 2 ∨ τ q = 7 ∨ 100 ≤ τ q) → ¬ P q) : XSn D h1 τ A n fw of sc sz he re le tg pn kd on ot := hX.mv hk hn rtg.rf ⟨rfl, fun _ _ => ⟨rfl, rfl, rfl⟩⟩
/-- one snippet's own cell changes -/
theorem XSn.ob {n x : Nat} {fw of sc sz he of1 sc1 sz1 he1 : Nat → Int} {re re1 : Nat → Nat} {le tg pn kd on ot : Nat → Int} (hX : XSn D h τ A n fw of sc sz he re le tg pn kd on ot) (hk : keeps h h1 (fun q => τ q = 100 + x)) (hs : XSob h1 τ A x (fw x) (1 - of1 x) (sc1 x) (sz1 x) (he1 x) (re1 x)) (hx : x < 8) (ho : ∀ k, k ≠ x → of1 k = of k ∧ sc1 k = sc k ∧ sz1 k = sz k ∧ he1 k = he k ∧ re1 k = re k) : XSn D h1 τ A n fw of1 sc1 sz1 he1 re1 le tg pn kd on ot := by
  obtain ⟨e1, e2, e3, e4⟩ := hX
  refine ⟨e1.mv hk (fun q e => by omega) rtg.rf (fun _ _ => rfl), fun k hk9 => ?_, fun k hk9 => (e3 k hk9).mv hk (fun q e => by omega) rtg.rf rfl, fun k hk9 => (e4 k hk9).mv hk (fun q e => by omega) rtg.rf rfl⟩
  by_cases e : k = x
  · subst e; exact hs
  · obtain ⟨o1, o2, o3, o4, o5⟩ := ho k e
    rw [o1, o2, o3, o4, o5]
    exact (e2 k hk9).mv hk (fun q z => by omega) rtg.rf ⟨rfl, rfl, rfl⟩
/-- one snippet's trigger changes -/
theorem XSn.ch {n x : Nat} {fw of sc sz he : Nat → Int} {re : Nat → Nat} {le tg le1 tg1 pn kd on ot : Nat → Int} (hX : XSn D h τ A n fw of sc sz he re le tg pn kd on ot) (hn8 : n ≤ 8) (hk : keeps h h1 (fun q => τ q = 200 + x)) (hs : XTrg h1 τ A x (le1 x).toNat (fun j => tg1 (6 * x + j))) (hx : x < 8) (ho : ∀ k, k < n → k ≠ x → le1 k = le k ∧ ∀ j : Nat, (j : Int) < le k → tg1 (6 * k + j) = tg (6 * k + j)) : XSn D h1 τ A n fw of sc sz he re le1 tg1 pn kd on ot := by
  obtain ⟨e1, e2, e3, e4⟩ := hX
  refine ⟨e1.mv hk (fun q e => by omega) rtg.rf (fun _ _ => rfl), fun k hk9 => (e2 k hk9).mv hk (fun q e => by omega) rtg.rf ⟨rfl, rfl, rfl⟩, fun k hk9 => ?_, fun k hk9 => (e4 k hk9).mv hk (fun q e => by omega) rtg.rf rfl⟩
  by_cases e : k = x
  · subst e; exact hs
  · obtain ⟨o1, o2⟩ := ho k hk9 e
    rw [o1]
    obtain ⟨a, z1, z2, z3⟩ := (e3 k hk9).mv hk (fun q z => by omega) rtg.rf rfl
    exact ⟨a, z1.to fun q hq => (o2 q (by omega)).symm, z2, z3⟩
/-- one snippet's parts change -/
theorem XSn.pa {n x : Nat} {fw of sc sz he : Nat → Int} {re : Nat → Nat} {le tg pn kd on ot pn1 kd1 on1 ot1 : Nat → Int} (hX : XSn D h τ A n fw of sc sz he re le tg pn kd on ot) (hn8 : n ≤ 8) (hk : keeps h h1 (fun q => τ q = 300 + x)) (ht : rtg h τ τ1) (hs : XPs D h1 τ1 A x (pn1 x).toNat kd1 on1 ot1) (hx : x < 8) (ho : ∀ k, k < n → k ≠ x → pn1 k = pn k ∧ ∀ j : Nat, (j : Int) < pn k → kd1 (12 * k + j) = kd (12 * k + j) ∧ on1 (12 * k + j) = on (12 * k + j) ∧ ot1 (12 * k + j) = ot (12 * k + j)) : XSn D h1 τ1 A n fw of sc sz he re le tg pn1 kd1 on1 ot1 := by
  obtain ⟨e1, e2, e3, e4⟩ := hX
  refine ⟨e1.mv hk (fun q e => by omega) ht (fun _ _ => rfl), fun k hk9 => (e2 k hk9).mv hk (fun q e => by omega) ht ⟨rfl, rfl, rfl⟩, fun k hk9 => (e3 k hk9).mv hk (fun q e => by omega) ht rfl, fun k hk9 => ?_⟩
  by_cases e : k = x
  · subst e; exact hs
  · obtain ⟨o1, o2⟩ := ho k hk9 e
    rw [o1]
    obtain ⟨F, z1, z2⟩ := (e4 k hk9).mv hk (fun q z => by omega) ht rfl
    refine ⟨F, z1, fun j hj => ?_⟩
    obtain ⟨w1, w2, w3⟩ := o2 j (by omega)
    obtain ⟨y1, y2, y3⟩ := z2 j hj
    dsimp only at y1 y3 ⊢
    rw [show pk2 kd1 on1 ot1 (12 * k + j) = pk2 kd on ot (12 * k + j) by unfold pk2; rw [w1, w2, w3], w1, w2]
    exact ⟨y1, y2, y3⟩
theorem XTxt.mv {t g n m c : Nat} {F Z : Nat → Int} (hX : XTxt h τ t g n F m Z c) (hk : keeps h h1 P) (hn : ∀ q, τ q = g → ¬ P q) (ht : rtg h τ τ1) : XTxt h1 τ1 t g n F m Z c := by
  obtain ⟨rc, ac, rs, as_, e1, e2⟩ := hX
  have e3 : XTxt h1 τ t g n F m Z c := XTxt.kp ⟨rc, ac, rs, as_, e1, e2⟩ hk hn
  obtain ⟨s1, s2, s3, -, -⟩ := id e1
  obtain ⟨⟨g2, s4⟩, ⟨g3, s5⟩⟩ := s2.som
  obtain ⟨⟨g4, s6⟩, ⟨g5, s7⟩⟩ := s3.som
  have np : ∀ q, tP t rc ac rs as_ q → ¬ P q := fun q hq => hn q (e2 q hq)
  refine ⟨rc, ac, rs, as_, ⟨hk _ _ s1 (np _ (Or.inl rfl)), s2.kp hk (np _ (Or.inr (Or.inl rfl))) (np _ (Or.inr (Or.inr (Or.inl rfl)))), s3.kp hk (np _ (Or.inr (Or.inr (Or.inr (Or.inl rfl))))) (np _ (Or.inr (Or.inr (Or.inr (Or.inr rfl))))), e1.2.2.2⟩, fun q hq => ?_⟩
  have := e2 q hq
  rcases hq with rfl | rfl | rfl | rfl | rfl
  · exact (ht _ _ s1).trans this
  · exact (ht _ _ s4).trans this
  · exact (ht _ _ s5).trans this
  · exact (ht _ _ s6).trans this
  · exact (ht _ _ s7).trans this
theorem XTxt.to {t g n m c : Nat} {F Z F1 Z1 : Nat → Int} (hX : XTxt h τ t g n F m Z c) (e1 : ∀ q, q < n → F q = F1 q) (e2 : ∀ q, q < m → Z q = Z1 q) : XTxt h τ t g n F1 m Z1 c := by
  obtain ⟨rc, ac, rs, as_, ⟨s1, s2, s3, s4, s5⟩, e3⟩ := hX
  exact ⟨rc, ac, rs, as_, ⟨s1, s2.to e1, s3.to e2, s4, s5⟩, e3⟩
theorem RowL.som {r a cap : Nat} {l : List Int} (hr : RowL h r a cap l) : (∃ g, h r = some g) ∧ ∃ g, h a = some g := by
  obtain ⟨n, f, z1, z2⟩ := hr.kd
  exact ⟨⟨_, z1⟩, ⟨_, z2⟩⟩
theorem XGft.mv {g : Nat} {cl sl : List Int} (hX : XGft h τ g cl sl) (hk : keeps h h1 P) (hn : ∀ q, τ q = 4 → ¬ P q) (ht : rtg h τ τ1) : XGft h1 τ1 g cl sl := by
  obtain ⟨rc, ac, rs, as_, ⟨s1, s2, s3, z⟩, e2⟩ := hX
  obtain ⟨⟨g2, s4⟩, ⟨g3, s5⟩⟩ := s2.som
  obtain ⟨⟨g4, s6⟩, ⟨g5, s7⟩⟩ := s3.som
  have np : ∀ q, tP g rc ac rs as_ q → ¬ P q := fun q hq => hn q (e2 q hq)
  refine ⟨rc, ac, rs, as_, ⟨hk _ _ s1 (np _ (Or.inl rfl)), s2.kp hk (np _ (Or.inr (Or.inl rfl))) (np _ (Or.inr (Or.inr (Or.inl rfl)))), s3.kp hk (np _ (Or.inr (Or.inr (Or.inr (Or.inl rfl))))) (np _ (Or.inr (Or.inr (Or.inr (Or.inr rfl))))), z⟩, fun q hq => ?_⟩
  have := e2 q hq
  rcases hq with rfl | rfl | rfl | rfl | rfl
  · exact (ht _ _ s1).trans this
  · exact (ht _ _ s4).trans this
  · exact (ht _ _ s5).trans this
  · exact (ht _ _ s6).trans this
  · exact (ht _ _ s7).trans this
theorem XTre.mv {t n : Nat} {le tg : Nat → Int} (hX : XTre h τ t n le tg) (hk : keeps h h1 P) (hn : ∀ q, 30 ≤ τ q → τ q ≤ 33 → ¬ P q) (ht : rtg h τ τ1) : XTre h1 τ1 t n le tg := by
  obtain ⟨m, Q, C, E, z1, z2⟩ := hX
  refine ⟨m, Q, C, E, ?_, z2⟩
  obtain ⟨r0, a0, r1, a1, r2, a2, y0, y1, y2, y3, t0, ⟨t1, t2⟩, ⟨t3, t4⟩, ⟨t5, t6⟩⟩ := z1
  obtain ⟨⟨g1, s1⟩, ⟨g2, s2⟩⟩ := y1.som
  obtain ⟨⟨g3, s3⟩, ⟨g4, s4⟩⟩ := y2.som
  obtain ⟨⟨g5, s5⟩, ⟨g6, s6⟩⟩ := y3.som
  have np : ∀ q k, τ q = k → 30 ≤ k → k ≤ 33 → ¬ P q := fun q k e k1 k2 => hn q (by omega) (by omega)
  exact ⟨r0, a0, r1, a1, r2, a2, hk _ _ y0 (np _ _ t0 (by omega) (by omega)), y1.kp hk (np _ _ t1 (by omega) (by omega)) (np _ _ t2 (by omega) (by omega)), y2.kp hk (np _ _ t3 (by omega) (by omega)) (np _ _ t4 (by omega) (by omega)), y3.kp hk (np _ _ t5 (by omega) (by omega)) (np _ _ t6 (by omega) (by omega)), (ht _ _ y0).trans t0, ⟨(ht _ _ s1).trans t1, (ht _ _ s2).trans t2⟩, ⟨(ht _ _ s3).trans t3, (ht _ _ s4).trans t4⟩, ⟨(ht _ _ s5).trans t5, (ht _ _ s6).trans t6⟩⟩
theorem XTre.cg {t n : Nat} {le tg le1 tg1 : Nat → Int} (hX : XTre h τ t n le tg) (e : ∀ k, k < n → le1 k = le k ∧ ∀ j : Nat, (j : Int) < le k → tg1 (6 * k + j) = tg (6 * k + j)) : XTre h τ t n le1 tg1 := by
  obtain ⟨m, Q, C, E, z1, z2, z3, z4, z5⟩ := hX
  have cg : ∀ k, k < n → ∀ j, isP Q C (fun i => tg1 (6 * k + i)) (le1 k).toNat 0 j ↔ isP Q C (fun i => tg (6 * k + i)) (le k).toNat 0 j := fun k hk j => by
    obtain ⟨e1, e2⟩ := e k hk
    rw [e1]
    constructor
    · exact isP_cg _ _ _ _ fun q hq => by simp only [Nat.zero_add]; exact e2 q (by omega)
    · exact isP_cg _ _ _ _ fun q hq => by simp only [Nat.zero_add]; exact (e2 q (by omega)).symm
  refine ⟨m, Q, C, E, z1, z2, z3, fun k hk hl => ?_, fun j hj => ?_⟩
  · rw [(e k hk).1] at hl
    obtain ⟨j, j1, j2⟩ := z4 k hk hl
    exact ⟨j, j1, (cg k hk j).mpr j2⟩
  · obtain ⟨w, w1, w2, w3⟩ := z5 j hj
    refine ⟨w, w1, w2, fun k hk => (w3 k hk).trans ?_⟩
    constructor
    · rintro ⟨v1, v2, v3⟩
      exact ⟨v1, by rw [(e k v1).1]; exact v2, (cg k v1 j).mpr v3⟩
    · rintro ⟨v1, v2, v3⟩
      exact ⟨v1, by rw [← (e k v1).1]; exact v2, (cg k v1 j).mp v3⟩
end MV
