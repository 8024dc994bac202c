/-! bodies: what is reached, and ranks -/
section MTH
theorem anyR_iff {g : Nat → Prop} : ∀ n p, anyR g n p ↔ ∃ q, p ≤ q ∧ q < p + n ∧ g q
  | 0, p => ⟨fun h => h.elim, fun ⟨q, h1, h2, _⟩ => absurd h1 (by omega)⟩
  | n + 1, p => by
    unfold anyR
    rw [anyR_iff n (p + 1)]
    constructor
    · rintro (h | ⟨q, h1, h2, h3⟩)
      · exact ⟨p, by omega, by omega, h⟩
      · exact ⟨q, by omega, by omega, h3⟩
    · rintro ⟨q, h1, h2, h3⟩
      by_cases e : q = p
      · subst e; exact Or.inl h3
      · exact Or.inr ⟨q, by omega, by omega, h3⟩
noncomputable def cn (p : Nat → Prop) : Nat → Nat
  | 0 => 0
  | n + 1 => by
    classical
    exact cn p n + if p n then 1 else 0
theorem cn_s (p : Nat → Prop) (n : Nat) : (p n → cn p (n + 1) = cn p n + 1) ∧ (¬ p n → cn p (n + 1) = cn p n) := by
  constructor <;> intro h <;> rw [cn]
  · rw [if_pos h]
  · rw [if_neg h]; rfl
theorem cn_mono {p q : Nat → Prop} : ∀ n, (∀ j, j < n → p j → q j) → cn p n ≤ cn q n
  | 0, _ => Nat.le_refl _
  | n + 1, h => by
    have ih := cn_mono (p := p) (q := q) n (fun j hj => h j (by omega))
    by_cases e : p n
    · rw [(cn_s p n).1 e, (cn_s q n).1 (h n (by omega) e)]; omega
    · rw [(cn_s p n).2 e]
      by_cases e2 : q n
      · rw [(cn_s q n).1 e2]; omega
      · rw [(cn_s q n).2 e2]; exact ih
theorem cn_lt {p q : Nat → Prop} : ∀ n, (∀ j, j < n → p j → q j) → (∃ j, j < n ∧ q j ∧ ¬ p j) → cn p n < cn q n
  | 0, _, ⟨j, hj, _⟩ => absurd hj (by omega)
  | n + 1, h, ⟨j, hj, hq, hp⟩ => by
    have h1 : ∀ j, j < n → p j → q j := fun j hj => h j (by omega)
    by_cases e : j = n
    · subst e
      have := cn_mono (p := p) (q := q) j h1
      rw [(cn_s p j).2 hp, (cn_s q j).1 hq]; omega
    · have ih := cn_lt (p := p) (q := q) n h1 ⟨j, by omega, hq, hp⟩
      by_cases e1 : p n
      · rw [(cn_s p n).1 e1, (cn_s q n).1 (h n (by omega) e1)]; omega
      · rw [(cn_s p n).2 e1]
        by_cases e2 : q n
        · rw [(cn_s q n).1 e2]; omega
        · rw [(cn_s q n).2 e2]; exact ih
theorem cn_all : ∀ n, cn (fun _ => True) n = n
  | 0 => rfl
  | n + 1 => by rw [(cn_s _ n).1 trivial, cn_all n]
theorem cn_n {p : Nat → Prop} {n j : Nat} (hj : j < n) (hp : ¬ p j) : cn p n < n := by
  have := cn_lt (p := p) (q := fun _ => True) n (fun _ _ _ => trivial) ⟨j, hj, trivial, hp⟩
  rw [cn_all] at this
  exact this
/-- one body names another snippet -/
def Edg (pn kd on ot : Nat → Int) (x y : Nat) : Prop := ∃ p : Nat, 12 * x ≤ p ∧ (p : Int) < 12 * (x : Nat) + pn x ∧ (((kd p = 115 ∨ kd p = 111) ∧ on p = (y : Nat)) ∨ (kd p = 111 ∧ ot p = (y : Nat)))
variable {sn : Int} {pn kd on ot : Nat → Int} {rk : Nat → Nat}
theorem Edg.dn (hB : BOk sn pn kd on ot rk) {x y : Nat} (hx : (x : Int) < sn) (h : Edg pn kd on ot x y) : (y : Int) < sn ∧ rk y < rk x := by
  obtain ⟨p, h1, h2, h3⟩ := h
  obtain ⟨b1, b2⟩ := (hB x hx).2 p h1 h2
  rcases h3 with ⟨h3, h4⟩ | ⟨h3, h4⟩
  · obtain ⟨o1, o2, o3⟩ := b1 h3
    rw [h4] at o2 o3
    exact ⟨o2, by rw [show ((y : Nat) : Int).toNat = y by omega] at o3; exact o3⟩
  · obtain ⟨o1, o2, o3⟩ := b2 h3
    rw [h4] at o2 o3
    exact ⟨o2, by rw [show ((y : Nat) : Int).toNat = y by omega] at o3; exact o3⟩
theorem go_step (hB : BOk sn pn kd on ot rk) {t f x : Nat} (hx : (x : Int) < sn) : goF pn kd on ot t (f + 1) x ↔ ∃ y, Edg pn kd on ot x y ∧ (y = t ∨ goF pn kd on ot t f y) := by
  obtain ⟨⟨p0, p1⟩, hb⟩ := hB x hx
  rw [goF, anyR_iff]
  constructor
  · rintro ⟨q, h1, h2, h3⟩
    have h4 : (q : Int) < 12 * (x : Nat) + pn x := by omega
    obtain ⟨b1, b2⟩ := hb q h1 h4
    rcases h3 with ⟨k, h3⟩ | ⟨k, h3⟩
    · obtain ⟨o1, o2, o3⟩ := b1 k
      refine ⟨(on q).toNat, ⟨q, h1, h4, Or.inl ⟨k, by omega⟩⟩, ?_⟩
      rcases h3 with h3 | h3
      · exact Or.inl (by omega)
      · exact Or.inr h3
    · obtain ⟨o1, o2, o3⟩ := b2 k
      refine ⟨(ot q).toNat, ⟨q, h1, h4, Or.inr ⟨k, by omega⟩⟩, ?_⟩
      rcases h3 with h3 | h3
      · exact Or.inl (by omega)
      · exact Or.inr h3
  · rintro ⟨y, ⟨q, h1, h2, h3⟩, h4⟩
    refine ⟨q, h1, by omega, ?_⟩
    rcases h3 with ⟨k, h3⟩ | ⟨k, h3⟩
    · refine Or.inl ⟨k, ?_⟩
      rw [h3, show ((y : Nat) : Int).toNat = y by omega]
      rcases h4 with h4 | h4
      · exact Or.inl (by omega)
      · exact Or.inr h4
    · refine Or.inr ⟨k, ?_⟩
      rw [h3, show ((y : Nat) : Int).toNat = y by omega]
      rcases h4 with h4 | h4
      · exact Or.inl (by omega)
      · exact Or.inr h4
theorem go_stab (hB : BOk sn pn kd on ot rk) {t : Nat} : ∀ f f1 x : Nat, (x : Int) < sn → rk x < f → rk x < f1 → (goF pn kd on ot t f x ↔ goF pn kd on ot t f1 x)
  | 0, _, _, _, h, _ => absurd h (by omega)
  | _ + 1, 0, _, _, _, h => absurd h (by omega)
  | f + 1, f1 + 1, x, hx, h1, h2 => by
    rw [go_step hB hx, go_step hB hx]
    constructor <;> rintro ⟨y, he, hy⟩ <;> refine ⟨y, he, hy.imp id fun h => ?_⟩ <;> obtain ⟨e1, e2⟩ := he.dn hB hx
    · exact (go_stab hB f f1 y e1 (by omega) (by omega)).mp h
    · exact (go_stab hB f f1 y e1 (by omega) (by omega)).mpr h
/-- what is reached at all -/
def gto (pn kd on ot : Nat → Int) (x t : Nat) : Prop := goF pn kd on ot t 8 x
theorem gto_step (hB : BOk sn pn kd on ot rk) (hr : ∀ x, rk x < 8) {x t : Nat} (hx : (x : Int) < sn) : gto pn kd on ot x t ↔ ∃ y, Edg pn kd on ot x y ∧ (y = t ∨ gto pn kd on ot y t) := by
  unfold gto
  rw [go_stab hB 8 9 x hx (hr x) (by have := hr x; omega), go_step hB hx]
theorem gto_rk (hB : BOk sn pn kd on ot rk) (hr : ∀ x, rk x < 8) : ∀ (k x t : Nat), rk x < k → (x : Int) < sn → gto pn kd on ot x t → (t : Int) < sn ∧ rk t < rk x
  | 0, _, _, h, _, _ => absurd h (by omega)
  | k + 1, x, t, h, hx, hg => by
    obtain ⟨y, he, hy⟩ := (gto_step hB hr hx).mp hg
    obtain ⟨e1, e2⟩ := he.dn hB hx
    rcases hy with rfl | hy
    · exact ⟨e1, e2⟩
    · obtain ⟨e3, e4⟩ := gto_rk hB hr k y t (by omega) e1 hy
      exact ⟨e3, by omega⟩
theorem gto_tr (hB : BOk sn pn kd on ot rk) (hr : ∀ x, rk x < 8) : ∀ (k x t u : Nat), rk x < k → (x : Int) < sn → gto pn kd on ot x t → gto pn kd on ot t u → gto pn kd on ot x u
  | 0, _, _, _, h, _, _, _ => absurd h (by omega)
  | k + 1, x, t, u, h, hx, hg, hu => by
    obtain ⟨y, he, hy⟩ := (gto_step hB hr hx).mp hg
    obtain ⟨e1, e2⟩ := he.dn hB hx
    refine (gto_step hB hr hx).mpr ⟨y, he, Or.inr ?_⟩
    rcases hy with rfl | hy
    · exact hu
    · exact gto_tr hB hr k y t u (by omega) e1 hy hu
theorem gto_irr (hB : BOk sn pn kd on ot rk) (hr : ∀ x, rk x < 8) {x : Nat} (hx : (x : Int) < sn) : ¬ gto pn kd on ot x x := fun h => by
  have := (gto_rk hB hr 8 x x (hr x) hx h).2
  omega
/-- ranks after a part that names a and b has been put behind s's others -/
theorem rank_add (hn : sn ≤ 8) (hB : BOk sn pn kd on ot rk) (hr : ∀ x, rk x < 8) {pn1 kd1 on1 ot1 : Nat → Int} {s a b : Nat} (hs : (s : Int) < sn) (ha : (a : Int) < sn) (hb : (b : Int) < sn)
    (hna : ¬ (a = s ∨ gto pn kd on ot a s)) (hnb : ¬ (b = s ∨ gto pn kd on ot b s))
    (hE : ∀ x y : Nat, (x : Int) < sn → Edg pn1 kd1 on1 ot1 x y → Edg pn kd on ot x y ∨ (x = s ∧ (y = a ∨ y = b))) :
    ∃ rk1 : Nat → Nat, (∀ x, rk1 x < 8) ∧ ∀ x y : Nat, (x : Int) < sn → Edg pn1 kd1 on1 ot1 x y → (y : Int) < sn ∧ rk1 y < rk1 x := by
  have irr := fun {x : Nat} (hx : (x : Int) < sn) => gto_irr hB hr hx
  have tr := fun {x t u : Nat} (hx : (x : Int) < sn) (h1 : gto pn kd on ot x t) (h2 : gto pn kd on ot t u) => gto_tr hB hr 8 x t u (hr x) hx h1 h2
  have rn := fun {x t : Nat} (hx : (x : Int) < sn) (h1 : gto pn kd on ot x t) => (gto_rk hB hr 8 x t (hr x) hx h1).1
  let R : Nat → Nat → Prop := fun x t => gto pn kd on ot x t ∨ ((x = s ∨ gto pn kd on ot x s) ∧ (t = a ∨ t = b ∨ gto pn kd on ot a t ∨ gto pn kd on ot b t))
  have self : ∀ y : Nat, (y : Int) < sn → ¬ R y y := fun y hy h => by
    rcases h with h | ⟨h1, h2⟩
    · exact irr hy h
    · rcases h1 with rfl | h1
      · rcases h2 with h2 | h2 | h2 | h2
        · exact hna (Or.inl h2.symm)
        · exact hnb (Or.inl h2.symm)
        · exact hna (Or.inr h2)
        · exact hnb (Or.inr h2)
      · rcases h2 with rfl | rfl | h2 | h2
        · exact hna (Or.inr h1)
        · exact hnb (Or.inr h1)
        · exact hna (Or.inr (tr ha h2 h1))
        · exact hnb (Or.inr (tr hb h2 h1))
  refine ⟨fun x => if (x : Int) < sn then cn (R x) 8 else 0, fun x => ?_, fun x y hx he => ?_⟩
  · dsimp only
    split
    · next h => exact cn_n (j := x) (by omega) (self x h)
    · omega
  · have hy : (y : Int) < sn := by
      rcases hE x y hx he with h | ⟨-, rfl | rfl⟩
      · exact (h.dn hB hx).1
      · exact ha
      · exact hb
    refine ⟨hy, ?_⟩
    dsimp only
    rw [if_pos hx, if_pos hy]
    refine cn_lt 8 (fun t _ ht => ?_) ⟨y, by omega, ?_, self y hy⟩
    · rcases hE x y hx he with h | ⟨rfl, h⟩
      · have xy : gto pn kd on ot x y := (gto_step hB hr hx).mpr ⟨y, h, Or.inl rfl⟩
        rcases ht with ht | ⟨h1, h2⟩
        · exact Or.inl (tr hx xy ht)
        · refine Or.inr ⟨Or.inr ?_, h2⟩
          rcases h1 with rfl | h1
          · exact xy
          · exact tr hx xy h1
      · rcases ht with ht | ⟨h1, h2⟩
        · refine Or.inr ⟨Or.inl rfl, ?_⟩
          rcases h with rfl | rfl
          · exact Or.inr (Or.inr (Or.inl ht))
          · exact Or.inr (Or.inr (Or.inr ht))
        · exact Or.inr ⟨Or.inl rfl, h2⟩
    · rcases hE x y hx he with h | ⟨rfl, h⟩
      · exact Or.inl ((gto_step hB hr hx).mpr ⟨y, h, Or.inl rfl⟩)
      · exact Or.inr ⟨Or.inl rfl, h.elim Or.inl fun h => Or.inr (Or.inl h)⟩
end MTH
