/-! the match that is taken -/
section MTB
def BestP (m : Nat → Prop) (le : Nat → Int) (N : Nat) (v : Int) : Prop := (v = -1 ∧ ∀ x, x < N → ¬ m x) ∨ ∃ b : Nat, v = (b : Nat) ∧ b < N ∧ m b ∧ ∀ x, x < N → m x → le x < le b ∨ (le x = le b ∧ b ≤ x)
theorem bsF_best {m : Nat → Prop} {le : Nat → Int} : ∀ (d j : Nat) (b : Int), BestP m le j b → BestP m le (j + d) (bsF m le d j b)
  | 0, _, _, h => h
  | d + 1, j, b, h => by
    classical
    have key : BestP m le (j + 1) (if m j ∧ (b < 0 ∨ le b.toNat < le j) then (j : Nat) else b) := by
      rcases h with ⟨e, h⟩ | ⟨k, e, hk, hm, h⟩
      · by_cases hj : m j
        · rw [if_pos ⟨hj, Or.inl (by omega)⟩]
          refine Or.inr ⟨j, rfl, by omega, hj, fun x hx hxm => ?_⟩
          by_cases ex : x = j
          · subst ex; exact Or.inr ⟨rfl, Nat.le_refl _⟩
          · exact absurd hxm (h x (by omega))
        · rw [if_neg (fun z => hj z.1)]
          refine Or.inl ⟨e, fun x hx => ?_⟩
          by_cases ex : x = j
          · subst ex; exact hj
          · exact h x (by omega)
      · have eb : b.toNat = k := by omega
        rw [eb]
        by_cases hj : m j ∧ le k < le j
        · rw [if_pos ⟨hj.1, Or.inr hj.2⟩]
          refine Or.inr ⟨j, rfl, by omega, hj.1, fun x hx hxm => ?_⟩
          by_cases ex : x = j
          · subst ex; exact Or.inr ⟨rfl, Nat.le_refl _⟩
          · have := h x (by omega) hxm
            omega
        · rw [if_neg (fun z => z.2.elim (fun z => by omega) (fun z2 => hj ⟨z.1, z2⟩))]
          refine Or.inr ⟨k, e, by omega, hm, fun x hx hxm => ?_⟩
          by_cases ex : x = j
          · subst ex
            have : ¬ le k < le x := fun z => hj ⟨hxm, z⟩
            omega
          · exact h x (by omega) hxm
    by_cases hc : m j ∧ (b < 0 ∨ le b.toNat < le j)
    · rw [bsF_t hc]
      rw [if_pos hc] at key
      have := bsF_best d (j + 1) _ key
      rw [show j + 1 + d = j + (d + 1) by omega] at this
      exact this
    · rw [bsF_f hc]
      rw [if_neg hc] at key
      have := bsF_best d (j + 1) _ key
      rw [show j + 1 + d = j + (d + 1) by omega] at this
      exact this
theorem BestP.uniq {m : Nat → Prop} {le : Nat → Int} {N : Nat} {v w : Int} (h1 : BestP m le N v) (h2 : BestP m le N w) : v = w := by
  rcases h1 with ⟨e1, n1⟩ | ⟨b, e1, b1, m1, u1⟩
  · rcases h2 with ⟨e2, n2⟩ | ⟨c, e2, c1, m2, u2⟩
    · omega
    · exact absurd m2 (n1 c c1)
  · rcases h2 with ⟨e2, n2⟩ | ⟨c, e2, c1, m2, u2⟩
    · exact absurd m1 (n2 b b1)
    · have p := u1 c c1 m2
      have q := u2 b b1 m1
      omega
theorem BestP.is {m : Nat → Prop} {le : Nat → Int} {N : Nat} {v : Int} (h : BestP m le N v) : v = bsF m le N 0 (-1) := by
  have := bsF_best (m := m) (le := le) N 0 (-1) (Or.inl ⟨rfl, fun x hx => absurd hx (by omega)⟩)
  rw [Nat.zero_add] at this
  exact h.uniq this
theorem BestP.cg {m m1 : Nat → Prop} {le : Nat → Int} {N : Nat} {v : Int} (h : BestP m le N v) (e : ∀ x, x < N → (m x ↔ m1 x)) : BestP m1 le N v := by
  rcases h with ⟨e1, n1⟩ | ⟨b, e1, b1, m1, u1⟩
  · exact Or.inl ⟨e1, fun x hx z => n1 x hx ((e x hx).mpr z)⟩
  · exact Or.inr ⟨b, e1, b1, (e b b1).mp m1, fun x hx z => u1 x hx ((e x hx).mpr z)⟩
end MTB
/-! heights, and sizes that are cut at 201 -/
section MTH2
variable {sn : Int} {pn kd on ot : Nat → Int} {rk : Nat → Nat}
def dpG (kd on ot : Nat → Int) (z : Nat → Int) (p : Nat) : Int := if kd p = 115 then z (on p).toNat else if kd p = 111 then max (z (on p).toNat) (z (ot p).toNat) else 0
theorem dpF_s (pn kd on ot : Nat → Int) (f s : Nat) : dpF pn kd on ot (f + 1) s = maxR (dpG kd on ot (dpF pn kd on ot f)) (pn s).toNat (12 * s) + 1 := rfl
theorem maxR_cg {g g1 : Nat → Int} : ∀ n p, (∀ q, p ≤ q → q < p + n → g1 q = g q) → maxR g1 n p = maxR g n p
  | 0, _, _ => rfl
  | n + 1, p, h => by
    unfold maxR
    rw [h p (by omega) (by omega), maxR_cg n (p + 1) (fun q h1 h2 => h q (by omega) (by omega))]
theorem dpG_cg {z z1 : Nat → Int} {p : Nat} (h : ∀ y : Nat, ((kd p = 115 ∨ kd p = 111) ∧ (on p).toNat = y) ∨ (kd p = 111 ∧ (ot p).toNat = y) → z1 y = z y) : dpG kd on ot z1 p = dpG kd on ot z p := by
  unfold dpG
  split
  · next e => rw [h _ (Or.inl ⟨Or.inl e, rfl⟩)]
  · split
    · next e1 e2 => rw [h _ (Or.inl ⟨Or.inr e2, rfl⟩), h _ (Or.inr ⟨e2, rfl⟩)]
    · rfl
theorem dpF_stab (hB : BOk sn pn kd on ot rk) : ∀ f f1 x : Nat, (x : Int) < sn → rk x < f → rk x < f1 → dpF pn kd on ot f x = dpF pn kd on ot f1 x
  | 0, _, _, _, h, _ => absurd h (by omega)
  | _ + 1, 0, _, _, _, h => absurd h (by omega)
  | f + 1, f1 + 1, x, hx, h1, h2 => by
    have hp := (hB x hx).1
    rw [dpF_s, dpF_s]
    congr 1
    refine maxR_cg _ _ (fun q q1 q2 => dpG_cg fun y hy => ?_)
    obtain ⟨e1, e2⟩ := (hB.edg hx q1 (by omega) hy).dn hB hx
    exact dpF_stab hB f f1 y e1 (by omega) (by omega)
/-- one step, at the fuel that is always enough -/
theorem dp_step (hB : BOk sn pn kd on ot rk) (hr : ∀ x, rk x < 8) {x : Nat} (hx : (x : Int) < sn) : dpF pn kd on ot 8 x = maxR (dpG kd on ot (dpF pn kd on ot 8)) (pn x).toNat (12 * x) + 1 := by
  rw [dpF_stab hB 8 9 x hx (hr x) (by have := hr x; omega), dpF_s]
theorem sz_step (hB : BOk sn pn kd on ot rk) (hr : ∀ x, rk x < 8) {x : Nat} (hx : (x : Int) < sn) : szF pn kd on ot 8 x = sumR (szG kd on ot (szF pn kd on ot 8)) (pn x).toNat (12 * x) := by
  rw [szF_stab hB 8 9 x hx (hr x) (by have := hr x; omega), szF_s]
end MTH2
