/-! sizes -/
section MTS
theorem sumR_cg {g g1 : Nat → Int} : ∀ n p, (∀ q, p ≤ q → q < p + n → g1 q = g q) → sumR g1 n p = sumR g n p
  | 0, _, _ => rfl
  | n + 1, p, h => by
    unfold sumR
    rw [h p (by omega) (by omega), sumR_cg n (p + 1) (fun q h1 h2 => h q (by omega) (by omega))]
theorem sumR_le {g g1 : Nat → Int} {M : Int} : ∀ n p, (∀ q, p ≤ q → q < p + n → g1 q ≤ M * g q) → sumR g1 n p ≤ M * sumR g n p
  | 0, _, _ => by unfold sumR; omega
  | n + 1, p, h => by
    unfold sumR
    have h1 := h p (by omega) (by omega)
    have h2 := sumR_le n (p + 1) (fun q h1 h2 => h q (by omega) (by omega))
    rw [Int.mul_add]
    omega
theorem sumR_snoc {g : Nat → Int} : ∀ n p, sumR g (n + 1) p = sumR g n p + g (p + n)
  | 0, p => by simp [sumR]
  | n + 1, p => by
    rw [sumR, sumR_snoc n (p + 1), sumR, show p + 1 + n = p + (n + 1) by omega]
    omega
/-- what one part costs -/
def szG (kd on ot : Nat → Int) (z : Nat → Int) (p : Nat) : Int := if kd p = 115 then 1 + z (on p).toNat else if kd p = 111 then 1 + max (z (on p).toNat) (z (ot p).toNat) else if kd p = 100 then 5 else 1
theorem szF_s (pn kd on ot : Nat → Int) (f s : Nat) : szF pn kd on ot (f + 1) s = sumR (szG kd on ot (szF pn kd on ot f)) (pn s).toNat (12 * s) := rfl
variable {sn : Int} {pn kd on ot : Nat → Int} {rk : Nat → Nat}
/-- a part's cost hangs on the snippets that it names -/
theorem szG_le {z z1 : Nat → Int} {M : Int} {p : Nat} (hM : 1 ≤ M) (h : ∀ y : Nat, ((kd p = 115 ∨ kd p = 111) ∧ (on p).toNat = y) ∨ (kd p = 111 ∧ (ot p).toNat = y) → 1 + z1 y ≤ M * (1 + z y)) : szG kd on ot z1 p ≤ M * szG kd on ot z p := by
  unfold szG
  split
  · next e => exact h _ (Or.inl ⟨Or.inl e, rfl⟩)
  · split
    · next e1 e2 =>
      have h1 := h _ (Or.inl ⟨Or.inr e2, rfl⟩)
      have h2 := h _ (Or.inr ⟨e2, rfl⟩)
      have m1 : M * (1 + z (on p).toNat) ≤ M * (1 + max (z (on p).toNat) (z (ot p).toNat)) := Int.mul_le_mul_of_nonneg_left (by omega) (by omega)
      have m2 : M * (1 + z (ot p).toNat) ≤ M * (1 + max (z (on p).toNat) (z (ot p).toNat)) := Int.mul_le_mul_of_nonneg_left (by omega) (by omega)
      omega
    · split <;> omega
theorem szG_cg {z z1 : Nat → Int} {p : Nat} (h : ∀ y : Nat, ((kd p = 115 ∨ kd p = 111) ∧ (on p).toNat = y) ∨ (kd p = 111 ∧ (ot p).toNat = y) → z1 y = z y) : szG kd on ot z1 p = szG kd on ot z p := by
  unfold szG
  split
  · next e => rw [h _ (Or.inl ⟨Or.inl e, rfl⟩)]
  · split
    · next e1 e2 => rw [h _ (Or.inl ⟨Or.inr e2, rfl⟩), h _ (Or.inr ⟨e2, rfl⟩)]
    · rfl
theorem BOk.edg (hB : BOk sn pn kd on ot rk) {x p y : Nat} (hx : (x : Int) < sn) (h1 : 12 * x ≤ p) (h2 : (p : Int) < 12 * (x : Nat) + pn x) (h : ((kd p = 115 ∨ kd p = 111) ∧ (on p).toNat = y) ∨ (kd p = 111 ∧ (ot p).toNat = y)) : Edg pn kd on ot x y := by
  obtain ⟨b1, b2⟩ := (hB x hx).2 p h1 h2
  refine ⟨p, h1, h2, ?_⟩
  rcases h with ⟨h, e⟩ | ⟨h, e⟩
  · have := b1 h
    exact Or.inl ⟨h, by omega⟩
  · have := b2 h
    exact Or.inr ⟨h, by omega⟩
theorem szF_stab (hB : BOk sn pn kd on ot rk) : ∀ f f1 x : Nat, (x : Int) < sn → rk x < f → rk x < f1 → szF pn kd on ot f x = szF pn kd on ot f1 x
  | 0, _, _, _, h, _ => absurd h (by omega)
  | _ + 1, 0, _, _, _, h => absurd h (by omega)
  | f + 1, f1 + 1, x, hx, h1, h2 => by
    have hp := (hB x hx).1
    rw [szF_s, szF_s]
    refine sumR_cg _ _ (fun q q1 q2 => szG_cg fun y hy => ?_)
    obtain ⟨e1, e2⟩ := (hB.edg hx q1 (by omega) hy).dn hB hx
    exact szF_stab hB f f1 y e1 (by omega) (by omega)
theorem szF_mono (hB : BOk sn pn kd on ot rk) : ∀ f x : Nat, (x : Int) < sn → szF pn kd on ot f x ≤ szF pn kd on ot (f + 1) x
  | 0, x, _ => szF_nn 1 x
  | f + 1, x, hx => by
    have hp := (hB x hx).1
    rw [szF_s pn kd on ot f, szF_s pn kd on ot (f + 1)]
    have := sumR_le (M := 1) (g1 := szG kd on ot (szF pn kd on ot f)) (g := szG kd on ot (szF pn kd on ot (f + 1))) (pn x).toNat (12 * x) (fun q q1 q2 => szG_le (by omega) fun y hy => by
      obtain ⟨e1, e2⟩ := (hB.edg hx q1 (by omega) hy).dn hB hx
      have := szF_mono hB f y e1
      omega)
    omega
theorem szF_le8 (hB : BOk sn pn kd on ot rk) (hr : ∀ x, rk x < 8) {x : Nat} (hx : (x : Int) < sn) (f : Nat) : szF pn kd on ot f x ≤ szF pn kd on ot 8 x := by
  by_cases h : f ≤ 8
  · have : ∀ d g : Nat, szF pn kd on ot g x ≤ szF pn kd on ot (g + d) x := fun d => by
      induction d with
      | zero => intro g; exact Int.le_refl _
      | succ d ih => intro g; exact Int.le_trans (ih g) (szF_mono hB _ x hx)
    have h9 := this (8 - f) f
    rw [show f + (8 - f) = 8 by omega] at h9
    exact h9
  · rw [szF_stab hB f 8 x hx (by have := hr x; omega) (hr x)]
    exact Int.le_refl _
/-- sizes speak of what lies within the counts alone -/
theorem szF_cg (hB : BOk sn pn kd on ot rk) {kd1 on1 ot1 : Nat → Int} (hA : ∀ x : Nat, (x : Int) < sn → ∀ p : Nat, 12 * x ≤ p → (p : Int) < 12 * (x : Nat) + pn x → kd1 p = kd p ∧ on1 p = on p ∧ ot1 p = ot p) : ∀ f x : Nat, (x : Int) < sn → szF pn kd1 on1 ot1 f x = szF pn kd on ot f x
  | 0, _, _ => rfl
  | f + 1, x, hx => by
    have hp := (hB x hx).1
    rw [szF_s, szF_s]
    refine sumR_cg _ _ (fun q q1 q2 => ?_)
    obtain ⟨a1, a2, a3⟩ := hA x hx q q1 (by omega)
    rw [show szG kd1 on1 ot1 (szF pn kd1 on1 ot1 f) q = szG kd on ot (szF pn kd1 on1 ot1 f) q by unfold szG; rw [a1, a2, a3]]
    exact szG_cg fun y hy => szF_cg hB hA f y ((hB.edg hx q1 (by omega) hy).dn hB hx).1
/-- sizes after a part behind s's others: nothing grows out of bounds -/
theorem size_add (hB : BOk sn pn kd on ot rk) (hr : ∀ x, rk x < 8) {s n : Nat} (hs : (s : Int) < sn) (hpn : pn s = (n : Nat)) {so u v : Int}
    (h200 : ∀ x : Nat, (x : Int) < sn → szF pn kd on ot 8 x ≤ 200)
    (hnew : ∀ y : Nat, ((so = 115 ∨ so = 111) ∧ u.toNat = y) ∨ (so = 111 ∧ v.toNat = y) → (y : Int) < sn ∧ y ≠ s ∧ ¬ gto pn kd on ot y s)
    {pn1 kd1 on1 ot1 : Nat → Int} (e1 : pn1 s = (n : Nat) + 1) (e2 : ∀ x : Nat, x ≠ s → pn1 x = pn x) (e3 : kd1 (12 * s + n) = so ∧ on1 (12 * s + n) = u ∧ ot1 (12 * s + n) = v)
    (e4 : ∀ x : Nat, (x : Int) < sn → ∀ p : Nat, 12 * x ≤ p → (p : Int) < 12 * (x : Nat) + pn x → kd1 p = kd p ∧ on1 p = on p ∧ ot1 p = ot p) :
    (∀ f x : Nat, (x : Int) < sn → x ≠ s → ¬ gto pn kd on ot x s → szF pn1 kd1 on1 ot1 f x = szF pn kd on ot f x) ∧ ∀ f x : Nat, (x : Int) < sn → szF pn1 kd1 on1 ot1 f x ≤ 402 * szF pn kd on ot f x + 401 := by
  have gc : ∀ (z : Nat → Int) (x : Nat), (x : Int) < sn → ∀ q, 12 * x ≤ q → (q : Int) < 12 * (x : Nat) + pn x → szG kd1 on1 ot1 z q = szG kd on ot z q := fun z x hx q q1 q2 => by
    obtain ⟨a1, a2, a3⟩ := e4 x hx q q1 q2
    unfold szG
    rw [a1, a2, a3]
  have A : ∀ f x : Nat, (x : Int) < sn → x ≠ s → ¬ gto pn kd on ot x s → szF pn1 kd1 on1 ot1 f x = szF pn kd on ot f x := by
    intro f
    induction f with
    | zero => intro x _ _ _; rfl
    | succ f ih =>
      intro x hx hxs hg
      have hp := (hB x hx).1
      rw [szF_s, szF_s, e2 x hxs]
      refine sumR_cg _ _ (fun q q1 q2 => ?_)
      rw [gc _ x hx q q1 (by omega)]
      refine szG_cg fun y hy => ?_
      have he := hB.edg hx q1 (by omega) hy
      refine ih y (he.dn hB hx).1 (fun e => hg ?_) (fun h => hg ?_)
      · exact (gto_step hB hr hx).mpr ⟨y, he, Or.inl e⟩
      · exact (gto_step hB hr hx).mpr ⟨y, he, Or.inr h⟩
  refine ⟨A, ?_⟩
  intro f
  induction f with
  | zero => intro x _; show (0 : Int) ≤ 402 * 0 + 401; omega
  | succ f ih =>
    intro x hx
    have hp := (hB x hx).1
    have old : ∀ q, 12 * x ≤ q → q < 12 * x + (pn x).toNat → szG kd1 on1 ot1 (szF pn1 kd1 on1 ot1 f) q ≤ 402 * szG kd on ot (szF pn kd on ot f) q := fun q q1 q2 => by
      rw [gc _ x hx q q1 (by omega)]
      refine szG_le (by omega) fun y hy => ?_
      have := ih y ((hB.edg hx q1 (by omega) hy).dn hB hx).1
      omega
    have os := sumR_le (pn x).toNat (12 * x) old
    rw [szF_s, szF_s]
    by_cases e : x = s
    · subst e
      rw [e1, show (((n : Nat) : Int) + 1).toNat = n + 1 by omega, sumR_snoc]
      rw [hpn, show ((n : Nat) : Int).toNat = n by omega] at os ⊢
      have nw : szG kd1 on1 ot1 (szF pn1 kd1 on1 ot1 f) (12 * x + n) ≤ 201 := by
        have big : ∀ y : Nat, ((so = 115 ∨ so = 111) ∧ u.toNat = y) ∨ (so = 111 ∧ v.toNat = y) → szF pn1 kd1 on1 ot1 f y ≤ 200 := fun y hy => by
          obtain ⟨y1, y2, y3⟩ := hnew y hy
          rw [A f y y1 y2 y3]
          exact Int.le_trans (szF_le8 hB hr y1 f) (h200 y y1)
        unfold szG
        rw [e3.1, e3.2.1, e3.2.2]
        split
        · next k => have := big _ (Or.inl ⟨Or.inl k, rfl⟩); omega
        · split
          · next k => have h1 := big _ (Or.inl ⟨Or.inr k, rfl⟩); have h2 := big _ (Or.inr ⟨k, rfl⟩); omega
          · split <;> omega
      omega
    · rw [e2 x e]
      omega
end MTS
