/-! what hangs on the counted parts alone -/
section CGS
variable {sn : Int} {pn kd on ot kd1 on1 ot1 : Nat → Int} {rk : Nat → Nat}
/-- the arrays are alike where parts are counted -/
def PEq (sn : Int) (pn kd on ot kd1 on1 ot1 : Nat → Int) : Prop := ∀ x : Nat, (x : Int) < sn → ∀ p : Nat, 12 * x ≤ p → (p : Int) < 12 * (x : Nat) + pn x → kd1 p = kd p ∧ on1 p = on p ∧ ot1 p = ot p
theorem BOk.cg (hB : BOk sn pn kd on ot rk) (hA : PEq sn pn kd on ot kd1 on1 ot1) : BOk sn pn kd1 on1 ot1 rk := fun s hs => by
  obtain ⟨b1, b2⟩ := hB s hs
  refine ⟨b1, fun p h1 h2 => ?_⟩
  obtain ⟨a1, a2, a3⟩ := hA s hs p h1 h2
  rw [a1, a2, a3]
  exact b2 p h1 h2
theorem BOk2.cg (hB : BOk2 sn pn kd on ot) (hA : PEq sn pn kd on ot kd1 on1 ot1) : BOk2 sn pn kd1 on1 ot1 := fun s hs p h1 h2 => by
  obtain ⟨a1, a2, a3⟩ := hA s hs p h1 h2
  rw [a1, a2, a3]
  exact hB s hs p h1 h2
theorem dpF_cg (hB : BOk sn pn kd on ot rk) (hA : PEq sn pn kd on ot kd1 on1 ot1) : ∀ f x : Nat, (x : Int) < sn → dpF pn kd1 on1 ot1 f x = dpF pn kd on ot f x
  | 0, _, _ => rfl
  | f + 1, x, hx => by
    have hp := (hB x hx).1
    rw [dpF_s, dpF_s]
    congr 1
    refine maxR_cg _ _ (fun q q1 q2 => ?_)
    obtain ⟨a1, a2, a3⟩ := hA x hx q q1 (by omega)
    rw [show dpG kd1 on1 ot1 (dpF pn kd1 on1 ot1 f) q = dpG kd on ot (dpF pn kd1 on1 ot1 f) q by unfold dpG; rw [a1, a2, a3]]
    exact dpG_cg fun y hy => dpF_cg hB hA f y ((hB.edg hx q1 (by omega) hy).dn hB hx).1
theorem Edg_cg (hA : PEq sn pn kd on ot kd1 on1 ot1) {x y : Nat} (hx : (x : Int) < sn) : Edg pn kd1 on1 ot1 x y ↔ Edg pn kd on ot x y := by
  constructor
  · rintro ⟨p, h1, h2, h3⟩
    obtain ⟨a1, a2, a3⟩ := hA x hx p h1 h2
    rw [a1, a2, a3] at h3
    exact ⟨p, h1, h2, h3⟩
  · rintro ⟨p, h1, h2, h3⟩
    obtain ⟨a1, a2, a3⟩ := hA x hx p h1 h2
    rw [← a1, ← a2, ← a3] at h3
    exact ⟨p, h1, h2, h3⟩
theorem goF_cg (hB : BOk sn pn kd on ot rk) (hA : PEq sn pn kd on ot kd1 on1 ot1) {t : Nat} : ∀ f x : Nat, (x : Int) < sn → (goF pn kd1 on1 ot1 t f x ↔ goF pn kd on ot t f x)
  | 0, _, _ => Iff.rfl
  | f + 1, x, hx => by
    rw [go_step hB hx, go_step (hB.cg hA) hx]
    constructor <;> rintro ⟨y, he, hy⟩
    · have he2 := (Edg_cg hA hx).mp he
      exact ⟨y, he2, hy.imp id (goF_cg hB hA f y (he2.dn hB hx).1).mp⟩
    · exact ⟨y, (Edg_cg hA hx).mpr he, hy.imp id (goF_cg hB hA f y (he.dn hB hx).1).mpr⟩
theorem Gd.cg (hB : BOk sn pn kd on ot rk) (hA : PEq sn pn kd on ot kd1 on1 ot1) {sz he : Nat → Int} {re : Nat → Nat} {x : Nat} (hx : (x : Int) < sn) (h : Gd pn kd on ot sz he re x) : Gd pn kd1 on1 ot1 sz he re x := by
  obtain ⟨h1, h2, h3, h4⟩ := h
  refine ⟨?_, ?_, h3, fun t ht => (h4 t ht).trans (goF_cg hB hA 8 x hx).symm⟩
  · rw [szF_cg hB hA 8 x hx]; exact h1
  · rw [dpF_cg hB hA 8 x hx]; exact h2
theorem PEq.sym (hA : PEq sn pn kd on ot kd1 on1 ot1) : PEq sn pn kd1 on1 ot1 kd on ot := fun x hx p h1 h2 => by
  obtain ⟨a1, a2, a3⟩ := hA x hx p h1 h2
  exact ⟨a1.symm, a2.symm, a3.symm⟩
theorem XSn.cg {D : DD} {h : GH} {τ A : Nat → Nat} {n : Nat} {fw of sc sz he : Nat → Int} {re : Nat → Nat} {le tg : Nat → Int} (hX : XSn D h τ A n fw of sc sz he re le tg pn kd on ot) (hA : PEq (n : Nat) pn kd on ot kd1 on1 ot1) : XSn D h τ A n fw of sc sz he re le tg pn kd1 on1 ot1 := by
  obtain ⟨e1, e2, e3, e4⟩ := hX
  refine ⟨e1, e2, e3, fun k hk => ?_⟩
  obtain ⟨F, z1, z2⟩ := e4 k hk
  refine ⟨F, z1, fun j hj => ?_⟩
  obtain ⟨w1, w2, w3⟩ := hA k (by omega) (12 * k + j) (by omega) (by omega)
  obtain ⟨y1, y2, y3⟩ := z2 j hj
  dsimp only at y1 y3 ⊢
  rw [show pk2 kd1 on1 ot1 (12 * k + j) = pk2 kd on ot (12 * k + j) by unfold pk2; rw [w1, w2, w3], w1, w2]
  exact ⟨y1, y2, y3⟩
theorem XS.cg {D : DD} {h : GH} {τ A : Nat → Nat} {n : Nat} {fw of sc le tg : Nat → Int} (hX : XS D h τ A n fw of sc le tg pn kd on ot) (hB : BOk (n : Nat) pn kd on ot rk) (hA : PEq (n : Nat) pn kd on ot kd1 on1 ot1) : XS D h τ A n fw of sc le tg pn kd1 on1 ot1 := by
  obtain ⟨sz, he, re, h1, h2⟩ := hX
  exact ⟨sz, he, re, h1.cg hA, fun k hk => (h2 k hk).cg hB hA (by omega)⟩
/-- one part more behind x's others -/
def pAdd (pn kd on ot : Nat → Int) (x : Nat) (so u v : Int) (pn1 kd1 on1 ot1 : Nat → Int) : Prop := pn1 = gupd pn x (pn x + 1) ∧ kd1 = gupd kd (12 * x + (pn x).toNat) so ∧ on1 = gupd on (12 * x + (pn x).toNat) u ∧ ot1 = gupd ot (12 * x + (pn x).toNat) v
theorem pAdd.eq {n x : Nat} {so u v : Int} (hx : x < n) (hp : ∀ k, k < n → 0 ≤ pn k ∧ pn k ≤ 12) (h12 : pn x < 12) : PEq (n : Nat) pn kd on ot (gupd kd (12 * x + (pn x).toNat) so) (gupd on (12 * x + (pn x).toNat) u) (gupd ot (12 * x + (pn x).toNat) v) := fun k hk p h1 h2 => by
  have hpk := hp k (by omega)
  have hpx := hp x hx
  have e : p ≠ 12 * x + (pn x).toNat := fun e => by
    by_cases e2 : k = x
    · subst e2; omega
    · omega
  exact ⟨gupd_n _ _ e, gupd_n _ _ e, gupd_n _ _ e⟩
end CGS
