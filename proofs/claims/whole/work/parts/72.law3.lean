/-! what holds between two calls of the law -/
def cls (t : Nat) : Prop := (1 ≤ t ∧ t ≤ 7) ∨ (30 ≤ t ∧ t ≤ 33) ∨ 100 ≤ t
def XA (D : DD) (h : GH) (τ A : Nat → Nat) (n : Nat) (td cu la sv ex kp : Int) (nl c m wl wc wm : Nat) (tx sp wa wp fw of sc le tg pn kd on ot : Nat → Int) : Prop := XTop h τ A td cu la sv ex (ex - kp) ∧ XS D h τ A n fw of sc le tg pn kd on ot ∧ XTre h τ (A 2) n le tg ∧ (∃ cl sl : List Int, XGft h τ (A 3) cl sl) ∧ XTxt h τ (A 4) 5 nl tx m sp c ∧ XTxt h τ (A 5) 6 wl wa wm wp wc
def LT (h : GH) (τ : Nat → Nat) (mo : Nat) (am : Nat → Nat) (out od : Nat) : Prop := (∀ q, mP mo am q → τ q = 50) ∧ τ out = 60 ∧ τ od = 60 ∧ (∃ f, h out = some (gArrL 3 1 f)) ∧ ∃ f, h od = some (gArrD 4 1 f)
/-- what a call of the class leaves -/
def CR (h : GH) (τ A : Nat → Nat) (X : GH → (Nat → Nat) → (Nat → Nat) → Prop) (h1 : GH) : Prop := ∃ τ1 A1 : Nat → Nat, rtg h τ τ1 ∧ A1 0 = A 0 ∧ X h1 τ1 A1 ∧ keeps h h1 (fun q => cls (τ q))
def Mvb (X : GH → (Nat → Nat) → (Nat → Nat) → Prop) : Prop := ∀ (h h1 : GH) (τ A : Nat → Nat) (P : Nat → Prop), X h τ A → keeps h h1 P → (∀ q, cls (τ q) → ¬ P q) → X h1 τ A
def Mid (x mo out od : Nat) (am : Nat → Nat) (vs : List GV) (As : List (Nat → Int)) (X : GH → (Nat → Nat) → (Nat → Nat) → Prop) (O : Option Int) (h2 : GH) : Prop := ∃ τ1 A1 : Nat → Nat, A1 0 = x ∧ X h2 τ1 A1 ∧ IsM h2 h2 mo am vs As ∧ LT h2 τ1 mo am out od ∧ ∀ v, O = some v → ∃ g, h2 out = some (gArrL 3 1 g) ∧ g 0 = v
section LAW
variable {D : DD} {h h1 h2 : GH} {τ τ1 A A1 : Nat → Nat} {x mo out od : Nat} {am : Nat → Nat} {vs vs1 : List GV} {As As1 : List (Nat → Int)} {X : GH → (Nat → Nat) → (Nat → Nat) → Prop} {O : Option Int}
theorem XA.kp {P : Nat → Prop} {n : Nat} {td cu la sv ex kp : Int} {nl c m wl wc wm : Nat} {tx sp wa wp fw of sc le tg pn kd on ot : Nat → Int} (hX : XA D h τ A n td cu la sv ex kp nl c m wl wc wm tx sp wa wp fw of sc le tg pn kd on ot) (hk : keeps h h1 P) (hn : ∀ q, cls (τ q) → ¬ P q) : XA D h1 τ A n td cu la sv ex kp nl c m wl wc wm tx sp wa wp fw of sc le tg pn kd on ot := by
  obtain ⟨e1, e2, e3, ⟨cl, sl, e4⟩, e5, e6⟩ := hX
  exact ⟨e1.kp hk (fun q e => hn q (by unfold cls; omega)), e2.mv hk (fun q e => hn q (by unfold cls; omega)) rtg.rf ⟨rfl, fun _ _ => ⟨rfl, rfl, rfl⟩⟩, e3.mv hk (fun q a b => hn q (by unfold cls; omega)) rtg.rf, ⟨cl, sl, e4.mv hk (fun q e => hn q (by unfold cls; omega)) rtg.rf⟩, e5.kp hk (fun q e => hn q (by unfold cls; omega)), e6.kp hk (fun q e => hn q (by unfold cls; omega))⟩
theorem XA.mvb {n : Nat} {td cu la sv ex kp : Int} {nl c m wl wc wm : Nat} {tx sp wa wp fw of sc le tg pn kd on ot : Nat → Int} : Mvb (fun h τ A => XA D h τ A n td cu la sv ex kp nl c m wl wc wm tx sp wa wp fw of sc le tg pn kd on ot) := fun _ _ _ _ _ hX hk hn => hX.kp hk hn
theorem CR.same (hX : X h τ A) (e : h1 = h) : CR h τ A X h1 := by
  subst e
  exact ⟨τ, A, rtg.rf, rfl, hX, keeps.rf⟩
theorem IsM.som (hM : IsM h h mo am vs As) (hl : As.length = 15) : ∀ q, mP mo am q → ∃ g, h q = some g := fun q hq => by
  rcases hq with rfl | ⟨j, hj, rfl⟩
  · exact ⟨_, hM.1⟩
  · have e1 : ∃ t n, mtl[j]? = some (t, n) := by
      have : j < mtl.length := hj
      exact ⟨_, _, List.getElem?_eq_getElem this⟩
    obtain ⟨t, n, e1⟩ := e1
    exact ⟨_, hM.2.2.1 j t n _ e1 (List.getElem?_eq_getElem (by omega))⟩
theorem LT.mv (hT : LT h τ mo am out od) (hM : IsM h h mo am vs As) (hl : As.length = 15) (ht : rtg h τ τ1) (ho : ∃ f, h1 out = some (gArrL 3 1 f)) (hd : ∃ f, h1 od = some (gArrD 4 1 f)) : LT h1 τ1 mo am out od := by
  obtain ⟨e1, e2, e3, ⟨f, e4⟩, ⟨g, e5⟩⟩ := hT
  exact ⟨fun q hq => by obtain ⟨g, hg⟩ := hM.som hl q hq; exact (ht _ _ hg).trans (e1 q hq), (ht _ _ e4).trans e2, (ht _ _ e5).trans e3, ho, hd⟩
theorem CR.hout (hT : LT h τ mo am out od) (hC : CR h τ A X h1) : ∃ f, h1 out = some (gArrL 3 1 f) := by
  obtain ⟨τ1, A1, t1, a1, x1, k1⟩ := hC
  obtain ⟨e1, e2, e3, ⟨f, e4⟩, -⟩ := hT
  exact ⟨f, k1 _ _ e4 (fun z => by unfold cls at z; omega)⟩
theorem CR.hod (hT : LT h τ mo am out od) (hC : CR h τ A X h1) : ∃ f, h1 od = some (gArrD 4 1 f) := by
  obtain ⟨τ1, A1, t1, a1, x1, k1⟩ := hC
  obtain ⟨e1, e2, e3, -, ⟨f, e4⟩⟩ := hT
  exact ⟨f, k1 _ _ e4 (fun z => by unfold cls at z; omega)⟩
/-- behind a wrapper that answers an exception -/
theorem CR.mid (hA : A 0 = x) (hT : LT h τ mo am out od) (hM : IsM h h mo am vs As) (hl : As.length = 15) (hC : CR h τ A X h1) : Mid x mo out od am vs As X none h1 := by
  obtain ⟨τ1, A1, t1, a1, x1, k1⟩ := id hC
  exact ⟨τ1, A1, a1.trans hA, x1, hM.kp k1 (fun q hq z => by have := hT.1 q hq; unfold cls at z; omega), hT.mv hM hl t1 (CR.hout hT hC) (CR.hod hT hC), fun v e => by cases e⟩
/-- behind a wrapper that answers -/
theorem CR.midg (hA : A 0 = x) (hT : LT h τ mo am out od) (hM : IsM h h mo am vs As) (hl : As.length = 15) (hX : Mvb X) {v : Int} (hC : ∃ (h1 : GH) (g : Nat → Int), CR h τ A X h1 ∧ g 0 = v ∧ h2 = hput h1 out (gArrL 3 1 g)) : Mid x mo out od am vs As X (some v) h2 := by
  obtain ⟨h1, g, hC, hg, rfl⟩ := hC
  obtain ⟨τ1, A1, t1, a1, x1, k1⟩ := id hC
  obtain ⟨f1, o1⟩ := CR.hout hT hC
  obtain ⟨f2, o2⟩ := CR.hod hT hC
  have L1 : LT h1 τ1 mo am out od := hT.mv hM hl t1 ⟨f1, o1⟩ ⟨f2, o2⟩
  have M1 : IsM h1 h1 mo am vs As := hM.kp k1 (fun q hq z => by have := hT.1 q hq; unfold cls at z; omega)
  have kp : keeps h1 (hput h1 out (gArrL 3 1 g)) (fun q => q = out) := keeps.put (Or.inl rfl)
  have ne : od ≠ out := fun e => by rw [e] at o2; rw [o1] at o2; cases o2
  refine ⟨τ1, A1, a1.trans hA, hX _ _ _ _ _ x1 kp (fun q e z => ?_), M1.kp kp (fun q hq z => ?_), L1.mv M1 hl rtg.rf ⟨g, hput_s _ _ _⟩ ⟨f2, by rw [hput_n _ _ ne]; exact o2⟩, fun w e => ⟨g, hput_s _ _ _, by cases e; exact hg⟩⟩
  · subst z; have := L1.2.1; unfold cls at e; omega
  · subst z; have := L1.2.1; have := L1.1 q hq; omega
/-- the model's call behind it -/
theorem Mid.mod (hm : Mid x mo out od am vs As X O h1) (hX : Mvb X) {y : MethodName} {cc : ByteArray} {mx d : Nat} {ret : Option FieldType} {args : List GV} {g : GV} (M : IsM h1 h1 mo am vs As → GMet D y cc mx ret [] d 0 0 args h1 (pr g (fun h3 => IsM h1 h3 mo am vs1 As1))) : (∃ gs, h1 mo = some (gObj 8 gs)) ∧ GMet D y cc mx ret [] d 0 0 args h1 (pr g (Mid x mo out od am vs1 As1 X O)) := by
  obtain ⟨τ1, A1, a0, x1, im, lt, ho⟩ := hm
  refine ⟨⟨_, im.1⟩, (M im).mono fun o h3 z => ⟨z.1, ?_⟩⟩
  obtain ⟨-, i3⟩ := z
  have kp := i3.2.2.2.2.2
  obtain ⟨l1, l2, l3, ⟨f4, l4⟩, ⟨f5, l5⟩⟩ := id lt
  have no : ¬ mP mo am out := fun z => by have := l1 _ z; omega
  have nd : ¬ mP mo am od := fun z => by have := l1 _ z; omega
  refine ⟨τ1, A1, a0, hX _ _ _ _ _ x1 kp (fun q e z => by have := l1 _ z; unfold cls at e; omega), i3.rb, ⟨l1, l2, l3, ⟨f4, kp _ _ l4 no⟩, ⟨f5, kp _ _ l5 nd⟩⟩, fun v e => ?_⟩
  obtain ⟨g, g1, g2⟩ := ho v e
  exact ⟨g, kp _ _ g1 no, g2⟩
theorem Mid.thr (hm : Mid x mo out od am vs As X O h2) {k : Int} (M : IsM h2 h2 mo am vs As → GMet D yX8_thrown cX8_thrown 1 (some .int) [] 1 0 0 [gR (some mo)] h2 (pr (gI k) (fun h3 => h3 = h2))) : (∃ gs, h2 mo = some (gObj 8 gs)) ∧ GMet D yX8_thrown cX8_thrown 1 (some .int) [] 1 0 0 [gR (some mo)] h2 (pr (gI k) (fun h3 => h3 = h2)) := by
  obtain ⟨τ1, A1, a0, x1, im, lt, ho⟩ := hm
  exact ⟨⟨_, im.1⟩, M im⟩
theorem Mid.o {v : Int} (hm : Mid x mo out od am vs As X (some v) h2) : ∃ g, h2 out = some (gArrL 3 1 g) ∧ g 0 = v := by
  obtain ⟨τ1, A1, a0, x1, im, lt, ho⟩ := hm
  exact ho v rfl
end LAW
/-! the numbers between two calls -/
def M1 (n : Nat) (fw of sc le tg pn : Nat → Int) : Prop := n ≤ 8 ∧ TOk (n : Nat) le of fw ∧ allC tg ∧ (∀ s, s < n → sc s = 0 ∨ sc s = 1) ∧ ∀ k, n ≤ k → of k = 0 ∧ sc k = 0 ∧ le k = 0 ∧ pn k = 0
def M2 (n : Nat) (pn kd on ot : Nat → Int) : Prop := allC kd ∧ (∃ rk : Nat → Nat, BOk (n : Nat) pn kd on ot rk ∧ ∀ s, rk s < 8) ∧ BOk2 (n : Nat) pn kd on ot ∧ ∀ s : Nat, (s : Int) < ((n : Nat) : Int) → szF pn kd on ot 8 s ≤ 200
def M3 (nl c m : Nat) (tx sp : Nat → Int) : Prop := allC tx ∧ c ≤ nl ∧ nl ≤ 80 ∧ m ≤ 200 ∧ ∀ q, q < m → 0 ≤ sp q ∧ sp q ≤ nl
def M5 (B : Nat) (td ex kp la sv cu : Int) : Prop := (99 ≤ td ∧ td ≤ 9999) ∧ (0 ≤ kp ∧ kp ≤ ex ∧ ex ≤ B) ∧ (cu = 0 ∨ (cu = 1 ∧ 1 ≤ kp)) ∧ (-6 ≤ la ∧ la ≤ 80) ∧ (-(100 * (B : Nat)) ≤ sv ∧ sv ≤ 100 * (B : Nat))
theorem M5.up {B : Nat} {td ex kp la sv cu : Int} (h : M5 B td ex kp la sv cu) : M5 (B + 1) td ex kp la sv cu := by unfold M5 at h ⊢; omega
theorem M5.cu0 {B : Nat} {td ex kp la sv cu : Int} (h : M5 B td ex kp la sv cu) : M5 (B + 1) td ex kp la sv 0 := by unfold M5 at h ⊢; omega
/-- the law's state -/
def LI (D : DD) (x mo out od B : Nat) (h : GH) : Prop := ∃ (τ A am : Nat → Nat) (n nl c m wl wc wm : Nat) (td ex kp la sv cu th ld ls : Int) (tg kd tx wa ou le pn on ot sp wp op fw of sc : Nat → Int), A 0 = x ∧ XA D h τ A n td cu la sv ex kp nl c m wl wc wm tx sp wa wp fw of sc le tg pn kd on ot ∧ IsM h h mo am [gI th, gI n, gI td, gI nl, gI c, gI m, gI ld, gI ls, gI wl, gI wc, gI wm, gI ex, gI kp, gI la, gL sv, gI cu] [tg, kd, tx, wa, ou, le, pn, on, ot, sp, wp, op, fw, of, sc] ∧ LT h τ mo am out od ∧ M1 n fw of sc le tg pn ∧ M2 n pn kd on ot ∧ M3 nl c m tx sp ∧ M3 wl wc wm wa wp ∧ M5 B td ex kp la sv cu ∧ allC ou
/-- the law's call is told: at its end the law's state holds again -/
def LGo (K : Nat → List (Option GV) → List GV → GH → Nat → Nat → Prop) (D : DD) (b0 x mo out od i B a b : Nat) : Prop := ∀ (h2 : GH) (l6 l7 : Option GV) (a2 b2 : Nat), LI D x mo out od (B + 1) h2 → a2 ≤ a + 8 → b2 ≤ b + 6000 → K 2074 [some (gR (some b0)), some (gR (some x)), some (gR (some mo)), some (gR (some out)), some (gR (some od)), some (gI i), l6, l7] [] h2 a2 b2
