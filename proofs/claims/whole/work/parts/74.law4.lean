/-! what a call changes of the class's state -/
section XAS
variable {D : DD} {h h1 : GH} {τ τ2 A A2 : Nat → Nat} {P : Nat → Prop} {n n1 : Nat} {td cu la sv ex kp td1 cu1 la1 sv1 ex1 kp1 : Int} {nl c m wl wc wm nl1 c1 m1 wl1 wc1 wm1 : Nat} {tx sp wa wp tx1 sp1 wa1 wp1 fw of sc le tg pn kd on ot fw1 of1 sc1 le1 tg1 pn1 kd1 on1 ot1 : Nat → Int}
theorem XA.sn (hX : XA D h τ A n td cu la sv ex kp nl c m wl wc wm tx sp wa wp fw of sc le tg pn kd on ot) (hk : keeps h h1 P) (hn : ∀ q, (τ q = 1 ∨ (4 ≤ τ q ∧ τ q ≤ 6) ∨ (30 ≤ τ q ∧ τ q ≤ 33)) → ¬ P q) (ht : rtg h τ τ2) (hA : ∀ i, i < 6 → A2 i = A i) (xs : XS D h1 τ2 A2 n1 fw1 of1 sc1 le tg pn1 kd1 on1 ot1) (tr : ∀ t, XTre h1 τ2 t n le tg → XTre h1 τ2 t n1 le tg) : XA D h1 τ2 A2 n1 td cu la sv ex kp nl c m wl wc wm tx sp wa wp fw1 of1 sc1 le tg pn1 kd1 on1 ot1 := by
  obtain ⟨e1, e2, e3, ⟨cl, sl, e4⟩, e5, e6⟩ := hX
  refine ⟨e1.mv hk (fun q e => hn q (by omega)) ht hA, xs, tr _ ?_, ⟨cl, sl, ?_⟩, ?_, ?_⟩
  · rw [hA 2 (by omega)]; exact e3.mv hk (fun q a b => hn q (by omega)) ht
  · rw [hA 3 (by omega)]; exact e4.mv hk (fun q e => hn q (by omega)) ht
  · rw [hA 4 (by omega)]; exact e5.mv hk (fun q e => hn q (by omega)) ht
  · rw [hA 5 (by omega)]; exact e6.mv hk (fun q e => hn q (by omega)) ht
/-- one snippet's own cell -/
theorem XA.ob (hX : XA D h τ A n td cu la sv ex kp nl c m wl wc wm tx sp wa wp fw of sc le tg pn kd on ot) {x : Nat} (hx : x < n) (hn8 : n ≤ 8) (hk : keeps h h1 (fun q => τ q = 100 + x)) {sz he : Nat → Int} {re : Nat → Nat} (hG : ∀ k, k < n → Gd pn kd on ot sz he re k) (hS : XSn D h τ A n fw of sc sz he re le tg pn kd on ot) (hs : XSob h1 τ A x (fw x) (1 - of1 x) (sc1 x) (sz x) (he x) (re x)) (ho : ∀ k, k ≠ x → of1 k = of k ∧ sc1 k = sc k) : XA D h1 τ A n td cu la sv ex kp nl c m wl wc wm tx sp wa wp fw of1 sc1 le tg pn kd on ot :=
  hX.sn hk (fun q e => by omega) rtg.rf (fun _ _ => rfl) ⟨sz, he, re, hS.ob hk hs (by omega) (fun k e => ⟨(ho k e).1, (ho k e).2, rfl, rfl, rfl⟩), hG⟩ (fun _ z => z)
theorem XA.tgs (hX : XA D h τ A n td cu la sv ex kp nl c m wl wc wm tx sp wa wp fw of sc le tg pn kd on ot) (hk : keeps h h1 (fun q => 30 ≤ τ q ∧ τ q ≤ 33 ∨ 100 ≤ τ q)) (xs : XS D h1 τ A n fw of sc le1 tg1 pn kd on ot) (tr : XTre h1 τ (A 2) n le1 tg1) : XA D h1 τ A n td cu la sv ex kp nl c m wl wc wm tx sp wa wp fw of sc le1 tg1 pn kd on ot := by
  obtain ⟨e1, e2, e3, ⟨cl, sl, e4⟩, e5, e6⟩ := hX
  exact ⟨e1.kp hk (fun q e => by omega), xs, tr, ⟨cl, sl, e4.mv hk (fun q e => by omega) rtg.rf⟩, e5.kp hk (fun q e => by omega), e6.kp hk (fun q e => by omega)⟩
theorem XA.txs (hX : XA D h τ A n td cu la sv ex kp nl c m wl wc wm tx sp wa wp fw of sc le tg pn kd on ot) (hk : keeps h h1 P) (hn : ∀ q, (τ q = 2 ∨ τ q = 7 ∨ (30 ≤ τ q ∧ τ q ≤ 33) ∨ 100 ≤ τ q) → ¬ P q) (tp : XTop h1 τ A td1 cu1 la1 sv1 ex1 (ex1 - kp1)) (gf : ∃ cl sl : List Int, XGft h1 τ (A 3) cl sl) (t4 : XTxt h1 τ (A 4) 5 nl1 tx1 m1 sp1 c1) (t5 : XTxt h1 τ (A 5) 6 wl1 wa1 wm1 wp1 wc1) : XA D h1 τ A n td1 cu1 la1 sv1 ex1 kp1 nl1 c1 m1 wl1 wc1 wm1 tx1 sp1 wa1 wp1 fw of sc le tg pn kd on ot := by
  obtain ⟨e1, e2, e3, e4, e5, e6⟩ := hX
  exact ⟨tp, e2.mv hk (fun q e => hn q (by omega)) rtg.rf ⟨rfl, fun _ _ => ⟨rfl, rfl, rfl⟩⟩, e3.mv hk (fun q a b => hn q (by omega)) rtg.rf, gf, t4, t5⟩
/-- the object and the text alone -/
theorem XA.tx5 (hX : XA D h τ A n td cu la sv ex kp nl c m wl wc wm tx sp wa wp fw of sc le tg pn kd on ot) (hk : keeps h h1 (fun q => τ q = 1 ∨ τ q = 5)) (tp : XTop h1 τ A td1 cu1 la1 sv1 ex1 (ex1 - kp1)) (t4 : XTxt h1 τ (A 4) 5 nl1 tx1 m1 sp1 c1) : XA D h1 τ A n td1 cu1 la1 sv1 ex1 kp1 nl1 c1 m1 wl wc wm tx1 sp1 wa wp fw of sc le tg pn kd on ot := by
  obtain ⟨cl, sl, e4⟩ := hX.2.2.2.1
  exact hX.txs hk (fun q e => by omega) tp ⟨cl, sl, e4.mv hk (fun q e => by omega) rtg.rf⟩ t4 (hX.2.2.2.2.2.kp hk (fun q e => by omega))
theorem XA.gfs (hX : XA D h τ A n td cu la sv ex kp nl c m wl wc wm tx sp wa wp fw of sc le tg pn kd on ot) (hk : keeps h h1 (fun q => τ q = 4)) {cl sl : List Int} (gf : XGft h1 τ (A 3) cl sl) : XA D h1 τ A n td cu la sv ex kp nl c m wl wc wm tx sp wa wp fw of sc le tg pn kd on ot :=
  hX.txs hk (fun q e => by omega) (hX.1.kp hk (fun q e => by omega)) ⟨cl, sl, gf⟩ (hX.2.2.2.2.1.kp hk (fun q e => by omega)) (hX.2.2.2.2.2.kp hk (fun q e => by omega))
theorem CR.mk' {X : GH → (Nat → Nat) → (Nat → Nat) → Prop} (hX : X h1 τ A) (hk : keeps h h1 P) (hP : ∀ q, P q → cls (τ q)) : CR h τ A X h1 := ⟨τ, A, rtg.rf, rfl, hX, hk.mono hP⟩
end XAS
