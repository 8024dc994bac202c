/-! what measuring finds -/
section MSR
theorem pkK_0 {k : Int} : pkK k = 0 ↔ k = 99 := by
  unfold pkK; constructor
  · intro h; split at h
    · assumption
    · split at h
      · cases h
      · split at h <;> cases h
  · intro h; rw [if_pos h]
theorem pkK_1 {k : Int} : pkK k = 1 ↔ (k = 115 ∨ k = 111) := by
  unfold pkK; constructor
  · intro h; split at h
    · cases h
    · split at h
      · assumption
      · split at h <;> cases h
  · intro h; rw [if_neg (by omega), if_pos h]
theorem pkK_2 {k : Int} : pkK k = 2 ↔ k = 100 := by
  unfold pkK; constructor
  · intro h; split at h
    · cases h
    · split at h
      · cases h
      · split at h
        · assumption
        · cases h
  · intro h; rw [if_neg (by omega), if_neg (by omega), if_pos h]
theorem pkK_3 {k : Int} : pkK k = 3 ↔ ¬ (k = 99 ∨ k = 115 ∨ k = 111 ∨ k = 100) := by
  have h0 := @pkK_0 k
  have h1 := @pkK_1 k
  have h2 := @pkK_2 k
  have := pkK_lt k
  omega
def orR (g : Nat → Nat) : Nat → Nat → Nat
  | 0, _ => 0
  | n + 1, p => orR g n p ||| g (p + n)
theorem orR_lt {g : Nat → Nat} : ∀ n p, (∀ q, p ≤ q → q < p + n → g q < 256) → orR g n p < 256
  | 0, _, _ => by unfold orR; omega
  | n + 1, p, h => by
    unfold orR
    exact Nat.or_lt_two_pow (n := 8) (orR_lt n p fun q h1 h2 => h q h1 (by omega)) (h _ (by omega) (by omega))
theorem orR_bit {g : Nat → Nat} {t : Nat} : ∀ n p, (orR g n p).testBit t = true ↔ ∃ q, p ≤ q ∧ q < p + n ∧ (g q).testBit t = true
  | 0, p => by
    unfold orR
    simp only [Nat.zero_testBit]
    constructor
    · intro h; cases h
    · rintro ⟨q, h1, h2, -⟩; omega
  | n + 1, p => by
    unfold orR
    rw [Nat.testBit_or, Bool.or_eq_true, orR_bit n p]
    constructor
    · rintro (⟨q, h1, h2, h3⟩ | h)
      · exact ⟨q, h1, by omega, h3⟩
      · exact ⟨p + n, by omega, by omega, h⟩
    · rintro ⟨q, h1, h2, h3⟩
      by_cases e : q = p + n
      · subst e; exact Or.inr h3
      · exact Or.inl ⟨q, h1, by omega, h3⟩
def reG (kd on ot : Nat → Int) (re : Nat → Nat) (p : Nat) : Nat := if kd p = 115 ∨ kd p = 111 then ((re (on p).toNat ||| re (pk2 kd on ot p).toNat) ||| 2 ^ (on p).toNat) ||| 2 ^ (pk2 kd on ot p).toNat else 0
theorem maxR_snoc {g : Nat → Int} : ∀ n p, 0 ≤ g (p + n) → maxR g (n + 1) p = max (maxR g n p) (g (p + n))
  | 0, p, h => by simp only [maxR, Nat.add_zero] at h ⊢; omega
  | n + 1, p, h => by
    have := maxR_snoc (g := g) n (p + 1) (by rw [show p + 1 + n = p + (n + 1) by omega]; exact h)
    rw [maxR, this, maxR, show p + 1 + n = p + (n + 1) by omega]
    omega
theorem maxR_nn {g : Nat → Int} : ∀ n p, 0 ≤ maxR g n p
  | 0, _ => Int.le_refl _
  | n + 1, p => by have := maxR_nn (g := g) n (p + 1); unfold maxR; omega
/-- sums that are cut -/
theorem sum_cut {g g1 : Nat → Int} : ∀ n p, (∀ q, p ≤ q → q < p + n → 0 ≤ g q ∧ 0 ≤ g1 q ∧ (g1 q = g q ∨ (201 ≤ g1 q ∧ 201 ≤ g q))) → min (sumR g1 n p) 201 = min (sumR g n p) 201
  | 0, _, _ => rfl
  | n + 1, p, h => by
    obtain ⟨a1, a2, a3⟩ := h p (by omega) (by omega)
    have ih := sum_cut n (p + 1) (fun q h1 h2 => h q (by omega) (by omega))
    have n1 := sumR_nn (g := g) n (p + 1) (fun q h1 h2 => (h q (by omega) (by omega)).1)
    have n2 := sumR_nn (g := g1) n (p + 1) (fun q h1 h2 => (h q (by omega) (by omega)).2.1)
    unfold sumR
    omega
variable {sn : Int} {pn kd on ot : Nat → Int} {rk : Nat → Nat}
/-- what is kept of a snippet is right -/
def Gd (pn kd on ot sz he : Nat → Int) (re : Nat → Nat) (x : Nat) : Prop := sz x = min (szF pn kd on ot 8 x) 201 ∧ he x = dpF pn kd on ot 8 x ∧ re x < 256 ∧ ∀ t, t < 8 → ((re x).testBit t = true ↔ gto pn kd on ot x t)
theorem nm_of (kd on ot : Nat → Int) {p y : Nat} (h : (kd p = 115 ∨ kd p = 111) ∧ ((on p).toNat = y ∨ (pk2 kd on ot p).toNat = y)) : ((kd p = 115 ∨ kd p = 111) ∧ (on p).toNat = y) ∨ (kd p = 111 ∧ (ot p).toNat = y) := by
  obtain ⟨h1, h2 | h2⟩ := h
  · exact Or.inl ⟨h1, h2⟩
  · unfold pk2 at h2
    split at h2
    · exact Or.inl ⟨h1, h2⟩
    · exact Or.inr ⟨h1.resolve_left ‹_›, h2⟩
theorem of_nm (kd on ot : Nat → Int) {p y : Nat} (h : ((kd p = 115 ∨ kd p = 111) ∧ (on p).toNat = y) ∨ (kd p = 111 ∧ (ot p).toNat = y)) : (kd p = 115 ∨ kd p = 111) ∧ ((on p).toNat = y ∨ (pk2 kd on ot p).toNat = y) := by
  rcases h with ⟨h1, h2⟩ | ⟨h1, h2⟩
  · exact ⟨h1, Or.inl h2⟩
  · refine ⟨Or.inr h1, Or.inr ?_⟩
    unfold pk2
    rw [if_neg (by omega)]
    exact h2
theorem gB (hB : BOk sn pn kd on ot rk) (hn : sn ≤ 8) {sz he : Nat → Int} {re : Nat → Nat} {M B : Int} (hz : ∀ k : Nat, (k : Int) < sn → (0 ≤ sz k ∧ sz k ≤ M) ∧ (0 ≤ he k ∧ he k ≤ B) ∧ re k < 256) {x p : Nat} (hx : (x : Int) < sn) (h1 : 12 * x ≤ p) (h2 : (p : Int) < 12 * (x : Nat) + pn x) : 0 ≤ szG kd on ot sz p ∧ 0 ≤ dpG kd on ot he p ∧ dpG kd on ot he p ≤ max B 0 ∧ reG kd on ot re p < 256 := by
  have ed : ∀ y : Nat, ((kd p = 115 ∨ kd p = 111) ∧ (on p).toNat = y) ∨ (kd p = 111 ∧ (ot p).toNat = y) → (y : Int) < sn := fun y h3 => ((hB.edg hx h1 h2 h3).dn hB hx).1
  unfold szG dpG reG
  refine ⟨?_, ?_, ?_, ?_⟩
  · split
    · next e => have := hz _ (ed _ (Or.inl ⟨Or.inl e, rfl⟩)); omega
    · split
      · next e1 e => have := hz _ (ed _ (Or.inl ⟨Or.inr e, rfl⟩)); omega
      · split <;> omega
  · split
    · next e => have := hz _ (ed _ (Or.inl ⟨Or.inl e, rfl⟩)); omega
    · split
      · next e1 e => have := hz _ (ed _ (Or.inl ⟨Or.inr e, rfl⟩)); omega
      · omega
  · split
    · next e => have := hz _ (ed _ (Or.inl ⟨Or.inl e, rfl⟩)); omega
    · split
      · next e1 e => have := hz _ (ed _ (Or.inl ⟨Or.inr e, rfl⟩)); have := hz _ (ed _ (Or.inr ⟨e, rfl⟩)); omega
      · omega
  · split
    · next e =>
      have z1 := ed _ (nm_of kd on ot ⟨e, Or.inl rfl⟩)
      have z2 := ed _ (nm_of kd on ot ⟨e, Or.inr rfl⟩)
      exact Nat.or_lt_two_pow (n := 8) (Nat.or_lt_two_pow (Nat.or_lt_two_pow (hz _ z1).2.2 (hz _ z2).2.2) (pw8 _ (by omega))) (pw8 _ (by omega))
    · omega
theorem Gd.step (hB : BOk sn pn kd on ot rk) (hn : sn ≤ 8) (hr : ∀ x, rk x < 8) {sz he : Nat → Int} {re : Nat → Nat} {x : Nat} (hx : (x : Int) < sn) (hz : ∀ k : Nat, (k : Int) < sn → 0 ≤ sz k) (hre : ∀ k : Nat, (k : Int) < sn → re k < 256) (hg : ∀ y : Nat, (y : Int) < sn → rk y < rk x → Gd pn kd on ot sz he re y) : min (sumR (szG kd on ot sz) (pn x).toNat (12 * x)) 201 = min (szF pn kd on ot 8 x) 201 ∧ maxR (dpG kd on ot he) (pn x).toNat (12 * x) + 1 = dpF pn kd on ot 8 x ∧ orR (reG kd on ot re) (pn x).toNat (12 * x) < 256 ∧ ∀ t, t < 8 → ((orR (reG kd on ot re) (pn x).toNat (12 * x)).testBit t = true ↔ gto pn kd on ot x t) := by
  have hp := (hB x hx).1
  have ed : ∀ p y : Nat, 12 * x ≤ p → p < 12 * x + (pn x).toNat → ((kd p = 115 ∨ kd p = 111) ∧ (on p).toNat = y) ∨ (kd p = 111 ∧ (ot p).toNat = y) → (y : Int) < sn ∧ rk y < rk x ∧ Edg pn kd on ot x y := fun p y h1 h2 h3 => by
    have he := hB.edg hx h1 (by omega) h3
    exact ⟨(he.dn hB hx).1, (he.dn hB hx).2, he⟩
  have nn := fun y => szF_nn (pn := pn) (kd := kd) (on := on) (ot := ot) 8 y
  refine ⟨?_, ?_, ?_, ?_⟩
  · rw [sz_step hB hr hx]
    refine sum_cut _ _ fun q q1 q2 => ?_
    unfold szG
    split
    · next e =>
      obtain ⟨y1, y2, -⟩ := ed q _ q1 q2 (Or.inl ⟨Or.inl e, rfl⟩)
      have := (hg _ y1 y2).1
      have := nn (on q).toNat
      omega
    · split
      · next e1 e2 =>
        obtain ⟨y1, y2, -⟩ := ed q _ q1 q2 (Or.inl ⟨Or.inr e2, rfl⟩)
        obtain ⟨y3, y4, -⟩ := ed q _ q1 q2 (Or.inr ⟨e2, rfl⟩)
        have := (hg _ y1 y2).1
        have := (hg _ y3 y4).1
        have := nn (on q).toNat
        have := nn (ot q).toNat
        omega
      · split <;> omega
  · rw [dp_step hB hr hx]
    congr 1
    refine maxR_cg _ _ fun q q1 q2 => dpG_cg fun y hy => ?_
    obtain ⟨y1, y2, -⟩ := ed q _ q1 q2 hy
    exact (hg _ y1 y2).2.1
  · refine orR_lt _ _ fun q q1 q2 => ?_
    unfold reG
    split
    · next e =>
      obtain ⟨y1, y2, -⟩ := ed q _ q1 q2 (nm_of kd on ot ⟨e, Or.inl rfl⟩)
      obtain ⟨y3, y4, -⟩ := ed q _ q1 q2 (nm_of kd on ot ⟨e, Or.inr rfl⟩)
      exact Nat.or_lt_two_pow (n := 8) (Nat.or_lt_two_pow (Nat.or_lt_two_pow (hre _ y1) (hre _ y3)) (pw8 _ (by omega))) (pw8 _ (by omega))
    · omega
  · intro t ht
    rw [orR_bit, gto_step hB hr hx]
    have bt : ∀ q, 12 * x ≤ q → q < 12 * x + (pn x).toNat → ((reG kd on ot re q).testBit t = true ↔ ∃ y, (((kd q = 115 ∨ kd q = 111) ∧ (on q).toNat = y) ∨ (kd q = 111 ∧ (ot q).toNat = y)) ∧ (y = t ∨ gto pn kd on ot y t)) := fun q q1 q2 => by
      unfold reG
      split
      · next e =>
        obtain ⟨y1, y2, -⟩ := ed q _ q1 q2 (nm_of kd on ot ⟨e, Or.inl rfl⟩)
        obtain ⟨y3, y4, -⟩ := ed q _ q1 q2 (nm_of kd on ot ⟨e, Or.inr rfl⟩)
        have g1 := (hg _ y1 y2).2.2.2 t ht
        have g2 := (hg _ y3 y4).2.2.2 t ht
        rw [Nat.testBit_or, Nat.testBit_or, Nat.testBit_or, Nat.testBit_two_pow, Nat.testBit_two_pow]
        simp only [Bool.or_eq_true, decide_eq_true_eq, g1, g2]
        constructor
        · rintro (((h | h) | h) | h)
          · exact ⟨_, nm_of kd on ot ⟨e, Or.inl rfl⟩, Or.inr h⟩
          · exact ⟨_, nm_of kd on ot ⟨e, Or.inr rfl⟩, Or.inr h⟩
          · exact ⟨_, nm_of kd on ot ⟨e, Or.inl rfl⟩, Or.inl h⟩
          · exact ⟨_, nm_of kd on ot ⟨e, Or.inr rfl⟩, Or.inl h⟩
        · rintro ⟨y, hy, h⟩
          obtain ⟨-, hy⟩ := of_nm kd on ot hy
          rcases hy with rfl | rfl
          · rcases h with h | h
            · exact Or.inl (Or.inr h)
            · exact Or.inl (Or.inl (Or.inl h))
          · rcases h with h | h
            · exact Or.inr h
            · exact Or.inl (Or.inl (Or.inr h))
      · next e =>
        rw [Nat.zero_testBit]
        constructor
        · intro h; cases h
        · rintro ⟨y, hy, -⟩
          exact absurd (of_nm kd on ot hy).1 e
    constructor
    · rintro ⟨q, q1, q2, q3⟩
      obtain ⟨y, y1, y2⟩ := (bt q q1 q2).mp q3
      exact ⟨y, (ed q y q1 q2 y1).2.2, y2⟩
    · rintro ⟨y, ⟨q, q1, q2, q3⟩, y2⟩
      refine ⟨q, q1, by omega, (bt q q1 (by omega)).mpr ⟨y, ?_, y2⟩⟩
      rcases q3 with ⟨k1, k2⟩ | ⟨k1, k2⟩
      · exact Or.inl ⟨k1, by omega⟩
      · exact Or.inr ⟨k1, by omega⟩
/-- measuring is in round r, at snippet x -/
def MI (n : Nat) (pn kd on ot : Nat → Int) (rk : Nat → Nat) (sz he : Nat → Int) (re : Nat → Nat) (r x : Nat) : Prop := (∀ k, k < n → (0 ≤ sz k ∧ sz k ≤ 201) ∧ (0 ≤ he k ∧ he k ≤ 100 + 8 * (r : Nat) + (x : Nat)) ∧ re k < 256) ∧ (∀ y, y < n → rk y < r → Gd pn kd on ot sz he re y) ∧ ∀ y, y < x → y < n → rk y ≤ r → Gd pn kd on ot sz he re y
theorem MI.round {n r : Nat} {sz he : Nat → Int} {re : Nat → Nat} (hn : n ≤ 8) (hI : MI n pn kd on ot rk sz he re r n) : MI n pn kd on ot rk sz he re (r + 1) 0 :=
  ⟨fun k hk => by have := hI.1 k hk; omega, fun y hy e => hI.2.2 y hy hy (by omega), fun y e => by omega⟩
theorem MI.step {n r x : Nat} {sz he : Nat → Int} {re : Nat → Nat} (hB : BOk (n : Nat) pn kd on ot rk) (hn : n ≤ 8) (hr8 : ∀ s, rk s < 8) (hx : x < n) (hI : MI n pn kd on ot rk sz he re r x) : MI n pn kd on ot rk (gupd sz x (min (sumR (szG kd on ot sz) (pn x).toNat (12 * x)) 201)) (gupd he x (maxR (dpG kd on ot he) (pn x).toNat (12 * x) + 1)) (gupd re x (orR (reG kd on ot re) (pn x).toNat (12 * x))) r (x + 1) := by
  obtain ⟨i1, i2, i3⟩ := hI
  have hxi : (x : Int) < ((n : Nat) : Int) := by omega
  have hp := (hB x hxi).1
  have gb := fun p h1 h2 => gB (p := p) hB (by omega) (B := 100 + 8 * (r : Nat) + (x : Nat)) (fun k hk => i1 k (by omega)) hxi h1 h2
  have sg : rk x ≤ r → Gd pn kd on ot (gupd sz x (min (sumR (szG kd on ot sz) (pn x).toNat (12 * x)) 201)) (gupd he x (maxR (dpG kd on ot he) (pn x).toNat (12 * x) + 1)) (gupd re x (orR (reG kd on ot re) (pn x).toNat (12 * x))) x := fun e => by
    unfold Gd
    rw [gupd_s, gupd_s, gupd_s]
    exact Gd.step hB (by omega) hr8 hxi (fun k hk => (i1 k (by omega)).1.1) (fun k hk => (i1 k (by omega)).2.2) (fun y y1 y2 => i2 y (by omega) (by omega))
  have ot9 : ∀ y, y ≠ x → Gd pn kd on ot sz he re y → Gd pn kd on ot (gupd sz x (min (sumR (szG kd on ot sz) (pn x).toNat (12 * x)) 201)) (gupd he x (maxR (dpG kd on ot he) (pn x).toNat (12 * x) + 1)) (gupd re x (orR (reG kd on ot re) (pn x).toNat (12 * x))) y := fun y e h => by
    unfold Gd
    rw [gupd_n _ _ e, gupd_n _ _ e, gupd_n _ _ e]
    exact h
  refine ⟨fun k hk => ?_, fun y hy e => ?_, fun y h1 hy e => ?_⟩
  · by_cases e : k = x
    · subst e
      rw [gupd_s, gupd_s, gupd_s]
      have s1 := sumR_nn (g := szG kd on ot sz) (pn k).toNat (12 * k) (fun q h1 h2 => (gb q h1 (by omega)).1)
      have s2 := maxR_r (g := dpG kd on ot he) (B := 100 + 8 * (r : Nat) + (k : Nat)) (by omega) (pn k).toNat (12 * k) (fun q h1 h2 => by have := (gb q h1 (by omega)).2.2.1; omega)
      have s3 := orR_lt (g := reG kd on ot re) (pn k).toNat (12 * k) (fun q h1 h2 => (gb q h1 (by omega)).2.2.2)
      omega
    · rw [gupd_n _ _ e, gupd_n _ _ e, gupd_n _ _ e]
      have := i1 k hk
      omega
  · by_cases e2 : y = x
    · subst e2; exact sg (by omega)
    · exact ot9 y e2 (i2 y hy e)
  · by_cases e2 : y = x
    · subst e2; exact sg (by omega)
    · exact ot9 y e2 (i3 y (by omega) hy e)
end MSR
/-- the class's snippets, rightly measured -/
def XS (D : DD) (h : GH) (τ A : Nat → Nat) (n : Nat) (fw of sc le tg pn kd on ot : Nat → Int) : Prop := ∃ (sz he : Nat → Int) (re : Nat → Nat), XSn D h τ A n fw of sc sz he re le tg pn kd on ot ∧ ∀ k, k < n → Gd pn kd on ot sz he re k
