/-! the numbers behind each call -/
section MTL
theorem fl_dcmp {v : UInt64} (h : FP.Core.decode FP.Core.b64 v.toNat ≠ .nan) : (Op.cmpValue (FP.dcmp v v) .l).toInt = 0 := by
  have e0 : FP.dcmp v v = some .eq := by
    show FP.Core.order (FP.Core.decode FP.Core.b64 v.toNat) (FP.Core.decode FP.Core.b64 v.toNat) = some .eq
    cases e : FP.Core.decode FP.Core.b64 v.toNat with
    | nan => exact absurd e h
    | inf s => simp [FP.Core.order, compare, compareOfLessAndEq]
    | fin s c q => simp [FP.Core.order, compare, compareOfLessAndEq]
  rw [e0]
  rfl
theorem allC_upd {f : Nat → Int} {k : Nat} {c : Int} (hf : allC f) (hc : 0 ≤ c ∧ c < 65536) : allC (gupd f k c) := fun q => by
  by_cases e : q = k
  · subst e; rw [gupd_s]; exact hc
  · rw [gupd_n _ _ e]; exact hf q
theorem allC_wr {f : Nat → Int} {l : List Int} (hf : allC f) (hl : ∀ x ∈ l, 0 ≤ x ∧ x < 65536) : allC (wrF f 0 l) := fun q => by
  unfold wrF
  split
  · next h =>
    rw [List.getD_eq_getElem?_getD]
    have : q - 0 < l.length := by omega
    rw [List.getElem?_eq_getElem this]
    exact hl _ (List.getElem_mem this)
  · exact hf q
theorem allC_cp {f g : Nat → Int} {n : Nat} (hf : allC f) (hg : allC g) : allC (cpM f g n) := fun q => by
  unfold cpM
  split
  · exact hf q
  · exact hg q
theorem getD_ok {l : List Int} {P : Int → Prop} (hl : ∀ x ∈ l, P x) {q : Nat} (hq : q < l.length) : P (l.getD q 0) := by
  rw [List.getD_eq_getElem?_getD, List.getElem?_eq_getElem hq]
  exact hl _ (List.getElem_mem hq)
theorem cntF_r {p : Nat → Prop} : ∀ d j, 0 ≤ cntF p d j ∧ cntF p d j ≤ d
  | 0, _ => by unfold cntF; omega
  | d + 1, j => by
    have := cntF_r (p := p) d (j + 1)
    unfold cntF
    rcases b01_2 (p j) with h | h <;> rw [h] <;> omega
theorem bsF_bp (m : Nat → Prop) (le : Nat → Int) (n : Nat) : BestP m le n (bsF m le n 0 (-1)) := by
  have := bsF_best (m := m) (le := le) n 0 (-1) (Or.inl ⟨rfl, fun x hx => absurd hx (by omega)⟩)
  rw [Nat.zero_add] at this
  exact this
theorem bsF_rg (m : Nat → Prop) (le : Nat → Int) (n : Nat) : -1 ≤ bsF m le n 0 (-1) ∧ bsF m le n 0 (-1) < (n : Int) + 1 := by
  rcases bsF_bp m le n with ⟨h, -⟩ | ⟨b, h, h2, -⟩ <;> omega
theorem XTre.succ {h : GH} {τ : Nat → Nat} {t n : Nat} {le tg : Nat → Int} (hX : XTre h τ t n le tg) (hl : le n = 0) : XTre h τ t (n + 1) le tg := by
  obtain ⟨m, Q, C, E, z1, z2, z3, z4, z5⟩ := hX
  refine ⟨m, Q, C, E, z1, z2, z3, fun k hk hk2 => ?_, fun j hj => ?_⟩
  · by_cases e : k = n
    · subst e; omega
    · exact z4 k (by omega) hk2
  · obtain ⟨w, w1, w2, w3⟩ := z5 j hj
    refine ⟨w, w1, w2, fun k hk => (w3 k hk).trans ?_⟩
    constructor
    · rintro ⟨v1, v2, v3⟩; exact ⟨by omega, v2, v3⟩
    · rintro ⟨v1, v2, v3⟩
      refine ⟨?_, v2, v3⟩
      by_cases e : k = n
      · subst e; omega
      · omega
variable {n : Nat} {pn kd on ot : Nat → Int}
/-- what may be put behind s's parts -/
def PutK (n : Nat) (pn kd on ot : Nat → Int) (s : Nat) (so u v : Int) : Prop := (so = 99 ∧ 0 ≤ u ∧ u < 65536) ∨ so = 112 ∨ (so = 100 ∧ (-99 ≤ u ∧ u ≤ 99) ∧ (v = 110 ∨ v = 119 ∨ v = 109)) ∨ ∃ t t2 : Nat, t < n ∧ t2 < n ∧ ¬ (t = s ∨ gto pn kd on ot t s) ∧ ¬ (t2 = s ∨ gto pn kd on ot t2 s) ∧ u = (t : Nat) ∧ (so = 115 ∧ t2 = t ∨ so = 111 ∧ v = (t2 : Nat))
theorem BOk.of {sn : Int} {rk : Nat → Nat} (hp : ∀ s : Nat, (s : Int) < sn → 0 ≤ pn s ∧ pn s ≤ 12) (hnn : ∀ s : Nat, (s : Int) < sn → ∀ p : Nat, 12 * s ≤ p → (p : Int) < 12 * (s : Nat) + pn s → ((kd p = 115 ∨ kd p = 111) → 0 ≤ on p) ∧ (kd p = 111 → 0 ≤ ot p)) (hE : ∀ x y : Nat, (x : Int) < sn → Edg pn kd on ot x y → (y : Int) < sn ∧ rk y < rk x) : BOk sn pn kd on ot rk := fun s hs => by
  refine ⟨hp s hs, fun p h1 h2 => ⟨fun k => ?_, fun k => ?_⟩⟩
  · have a := (hnn s hs p h1 h2).1 k
    have := hE s (on p).toNat hs ⟨p, h1, h2, Or.inl ⟨k, by omega⟩⟩
    omega
  · have a := (hnn s hs p h1 h2).2 k
    have := hE s (ot p).toNat hs ⟨p, h1, h2, Or.inr ⟨k, by omega⟩⟩
    omega
theorem put_ok {s N : Nat} {so u v : Int} (hn : n ≤ 8) (h2 : M2 n pn kd on ot) (hs : s < n) (hN : pn s = (N : Nat)) (h12 : N < 12) (hK : PutK n pn kd on ot s so u v) :
    allC (gupd kd (12 * s + N) so) ∧ (∃ rk1 : Nat → Nat, BOk (n : Nat) (gupd pn s ((N : Nat) + 1)) (gupd kd (12 * s + N) so) (gupd on (12 * s + N) u) (gupd ot (12 * s + N) v) rk1 ∧ ∀ s, rk1 s < 8) ∧ BOk2 (n : Nat) (gupd pn s ((N : Nat) + 1)) (gupd kd (12 * s + N) so) (gupd on (12 * s + N) u) (gupd ot (12 * s + N) v) ∧ ∀ f z : Nat, (z : Int) < ((n : Nat) : Int) → 0 ≤ szF (gupd pn s ((N : Nat) + 1)) (gupd kd (12 * s + N) so) (gupd on (12 * s + N) u) (gupd ot (12 * s + N) v) f z ∧ szF (gupd pn s ((N : Nat) + 1)) (gupd kd (12 * s + N) so) (gupd on (12 * s + N) u) (gupd ot (12 * s + N) v) f z < 2147483648 := by
  obtain ⟨hk, ⟨rk, hB, hr⟩, hB2, h200⟩ := h2
  have hp12 : ∀ k, k < n → 0 ≤ pn k ∧ pn k ≤ 12 := fun k hk => (hB k (by omega)).1
  have hpe := pAdd.eq (kd := kd) (on := on) (ot := ot) (so := so) (u := u) (v := v) hs hp12 (by omega)
  rw [show (pn s).toNat = N by omega] at hpe
  -- a place of the new bodies: the new one, or an old one
  have pl : ∀ x p : Nat, x < n → 12 * x ≤ p → (p : Int) < 12 * (x : Nat) + (gupd pn s ((N : Nat) + 1)) x → (x = s ∧ p = 12 * s + N ∧ (gupd kd (12 * s + N) so) p = so ∧ (gupd on (12 * s + N) u) p = u ∧ (gupd ot (12 * s + N) v) p = v) ∨ ((p : Int) < 12 * (x : Nat) + pn x ∧ (gupd kd (12 * s + N) so) p = kd p ∧ (gupd on (12 * s + N) u) p = on p ∧ (gupd ot (12 * s + N) v) p = ot p) := fun x p hx h1 h2 => by
    by_cases e : x = s
    · rw [e, gupd_s] at h2
      rw [e] at h1
      by_cases e2 : p = 12 * s + N
      · refine Or.inl ⟨e, e2, ?_, ?_, ?_⟩ <;> rw [e2] <;> exact gupd_s _ _ _
      · refine Or.inr ⟨by rw [e]; omega, gupd_n _ _ e2, gupd_n _ _ e2, gupd_n _ _ e2⟩
    · rw [gupd_n _ _ e] at h2
      obtain ⟨a1, a2, a3⟩ := hpe x (by omega) p h1 h2
      exact Or.inr ⟨h2, a1, a2, a3⟩
  have hp1 : ∀ x : Nat, (x : Int) < ((n : Nat) : Int) → 0 ≤ (gupd pn s ((N : Nat) + 1)) x ∧ (gupd pn s ((N : Nat) + 1)) x ≤ 12 := fun x hx => by
    by_cases e : x = s
    · rw [e, gupd_s]; omega
    · rw [gupd_n _ _ e]; exact hp12 x (by omega)
  have so_r : 0 ≤ so ∧ so < 65536 := by rcases hK with h | h | h | ⟨t, t2, h⟩ <;> omega
  have edg : ∀ x y : Nat, (x : Int) < ((n : Nat) : Int) → Edg (gupd pn s ((N : Nat) + 1)) (gupd kd (12 * s + N) so) (gupd on (12 * s + N) u) (gupd ot (12 * s + N) v) x y → Edg pn kd on ot x y ∨ (x = s ∧ (((so = 115 ∨ so = 111) ∧ u = (y : Nat)) ∨ (so = 111 ∧ v = (y : Nat)))) := fun x y hx ⟨p, h1, h2, h3⟩ => by
    rcases pl x p (by omega) h1 h2 with ⟨e1, e2, e3, e4, e5⟩ | ⟨e1, e3, e4, e5⟩
    · rw [e3, e4, e5] at h3
      exact Or.inr ⟨e1, h3⟩
    · rw [e3, e4, e5] at h3
      exact Or.inl ⟨p, h1, e1, h3⟩
  have nn : ∀ x : Nat, (x : Int) < ((n : Nat) : Int) → ∀ p : Nat, 12 * x ≤ p → (p : Int) < 12 * (x : Nat) + (gupd pn s ((N : Nat) + 1)) x → (((gupd kd (12 * s + N) so) p = 115 ∨ (gupd kd (12 * s + N) so) p = 111) → 0 ≤ (gupd on (12 * s + N) u) p) ∧ ((gupd kd (12 * s + N) so) p = 111 → 0 ≤ (gupd ot (12 * s + N) v) p) := fun x hx p h1 h2 => by
    rcases pl x p (by omega) h1 h2 with ⟨e1, e2, e3, e4, e5⟩ | ⟨e1, e3, e4, e5⟩
    · rw [e3, e4, e5]
      rcases hK with h | h | h | ⟨t, t2, h⟩ <;> omega
    · rw [e3, e4, e5]
      have b := (hB x hx).2 p h1 e1
      exact ⟨fun k => (b.1 k).1, fun k => (b.2 k).1⟩
  have hnew : ∀ y : Nat, ((so = 115 ∨ so = 111) ∧ u.toNat = y) ∨ (so = 111 ∧ v.toNat = y) → (y : Int) < ((n : Nat) : Int) ∧ y ≠ s ∧ ¬ gto pn kd on ot y s := fun y hy => by
    rcases hK with h | h | h | ⟨t, t2, t3, t4, t5, t6, t7, t8⟩
    · omega
    · omega
    · omega
    · have : y = t ∨ y = t2 := by omega
      rcases this with rfl | rfl
      · exact ⟨by omega, fun e => t5 (Or.inl e), fun e => t5 (Or.inr e)⟩
      · exact ⟨by omega, fun e => t6 (Or.inl e), fun e => t6 (Or.inr e)⟩
  refine ⟨allC_upd hk so_r, ?_, fun x hx p h1 h2 => ?_, fun f z hz => ?_⟩
  · by_cases hso : so = 115 ∨ so = 111
    · rcases hK with h | h | h | ⟨t, t2, t3, t4, t5, t6, t7, t8⟩
      · omega
      · omega
      · omega
      · obtain ⟨rk1, r1, r2⟩ := rank_add (pn1 := gupd pn s ((N : Nat) + 1)) (kd1 := gupd kd (12 * s + N) so) (on1 := gupd on (12 * s + N) u) (ot1 := gupd ot (12 * s + N) v) (a := t) (b := t2) (by omega) hB hr (s := s) (by omega) (by omega) (by omega) t5 t6 (fun x y hx he => (edg x y hx he).imp id fun z => ⟨z.1, by have := z.2; omega⟩)
        exact ⟨rk1, BOk.of hp1 nn r2, r1⟩
    · exact ⟨rk, BOk.of hp1 nn (fun x y hx he => by
        rcases edg x y hx he with h | ⟨-, h⟩
        · exact h.dn hB hx
        · omega), hr⟩
  · rcases pl x p (by omega) h1 h2 with ⟨e1, e2, e3, e4, e5⟩ | ⟨e1, e3, e4, e5⟩
    · rw [e3, e4, e5]
      rcases hK with h | h | h | ⟨t, t2, h⟩ <;> omega
    · rw [e3, e4, e5]
      exact hB2 x hx p h1 e1
  · have sa := size_add hB hr (s := s) (n := N) (by omega) hN (so := so) (u := u) (v := v) h200 hnew (pn1 := gupd pn s ((N : Nat) + 1)) (kd1 := gupd kd (12 * s + N) so) (on1 := gupd on (12 * s + N) u) (ot1 := gupd ot (12 * s + N) v) (gupd_s _ _ _) (fun x e => gupd_n _ _ e) ⟨gupd_s _ _ _, gupd_s _ _ _, gupd_s _ _ _⟩ hpe
    have s1 := sa.2 f z hz
    have s2 := szF_le8 hB hr hz f
    have s3 := h200 z hz
    exact ⟨szF_nn f z, by omega⟩
/-- the arrays behind a refused part -/
theorem put_no {s N : Nat} {so u v : Int} (h2 : M2 n pn kd on ot) (hs : s < n) (hN : pn s = (N : Nat)) (h12 : N < 12) (hso : 0 ≤ so ∧ so < 65536) : PEq (n : Nat) pn kd on ot (gupd kd (12 * s + N) so) (gupd on (12 * s + N) u) (gupd ot (12 * s + N) v) ∧ M2 n pn (gupd kd (12 * s + N) so) (gupd on (12 * s + N) u) (gupd ot (12 * s + N) v) := by
  obtain ⟨hk, ⟨rk, hB, hr⟩, hB2, h200⟩ := h2
  have hp12 : ∀ k, k < n → 0 ≤ pn k ∧ pn k ≤ 12 := fun k hk => (hB k (by omega)).1
  have hpe := pAdd.eq (kd := kd) (on := on) (ot := ot) (so := so) (u := u) (v := v) hs hp12 (by omega)
  rw [show (pn s).toNat = N by omega] at hpe
  exact ⟨hpe, allC_upd hk hso, ⟨rk, hB.cg hpe, hr⟩, hB2.cg hpe, fun x hx => by rw [szF_cg hB hpe 8 x hx]; exact h200 x hx⟩
theorem clr_ok {s : Nat} (h2 : M2 n pn kd on ot) : (∃ rk1 : Nat → Nat, BOk (n : Nat) (gupd pn s 0) kd on ot rk1 ∧ ∀ s, rk1 s < 8) ∧ M2 n (gupd pn s 0) kd on ot := by
  obtain ⟨hk, ⟨rk, hB, hr⟩, hB2, h200⟩ := h2
  have sub : ∀ x p : Nat, 12 * x ≤ p → (p : Int) < 12 * (x : Nat) + (gupd pn s 0) x → x ≠ s ∧ (p : Int) < 12 * (x : Nat) + pn x := fun x p h1 h2 => by
    by_cases e : x = s
    · rw [e, gupd_s] at h2; rw [e] at h1; omega
    · rw [gupd_n _ _ e] at h2; exact ⟨e, h2⟩
  have B1 : BOk (n : Nat) (gupd pn s 0) kd on ot rk := fun x hx => by
    refine ⟨?_, fun p h1 h2 => (hB x hx).2 p h1 (sub x p h1 h2).2⟩
    by_cases e : x = s
    · rw [e, gupd_s]; omega
    · rw [gupd_n _ _ e]; exact (hB x hx).1
  have sz : ∀ f x : Nat, (x : Int) < ((n : Nat) : Int) → szF (gupd pn s 0) kd on ot f x ≤ szF pn kd on ot f x := by
    intro f
    induction f with
    | zero => intro x _; exact Int.le_refl _
    | succ f ih =>
      intro x hx
      rw [szF_s, szF_s]
      by_cases e : x = s
      · rw [e, gupd_s]
        show (0 : Int) ≤ _
        exact sumR_nn _ _ (fun q _ _ => szG_nn pn kd on ot f q)
      · rw [gupd_n _ _ e]
        have hp := (hB x hx).1
        have := sumR_le (M := 1) (g1 := szG kd on ot (szF (gupd pn s 0) kd on ot f)) (g := szG kd on ot (szF pn kd on ot f)) (pn x).toNat (12 * x) (fun q q1 q2 => szG_le (by omega) fun y hy => by
          obtain ⟨e1, e2⟩ := (hB.edg hx q1 (by omega) hy).dn hB hx
          have := ih y e1
          omega)
        omega
  exact ⟨⟨rk, B1, hr⟩, hk, ⟨rk, B1, hr⟩, fun x hx p h1 h2 => hB2 x hx p h1 (sub x p h1 h2).2, fun x hx => Int.le_trans (sz 8 x hx) (h200 x hx)⟩
/-- one snippet more, without parts -/
theorem suc_ok (h2 : M2 n pn kd on ot) (hz : pn n = 0) : M2 (n + 1) pn kd on ot := by
  obtain ⟨hk, ⟨rk, hB, hr⟩, hB2, h200⟩ := h2
  refine ⟨hk, ⟨rk, fun x hx => ?_, hr⟩, fun x hx p h1 h2 => ?_, fun x hx => ?_⟩
  · by_cases e : x = n
    · rw [e, hz]
      exact ⟨by omega, fun p h1 h2 => by omega⟩
    · obtain ⟨b1, b2⟩ := hB x (by omega)
      refine ⟨b1, fun p h1 h2 => ⟨fun k => ?_, fun k => ?_⟩⟩
      · have := (b2 p h1 h2).1 k; omega
      · have := (b2 p h1 h2).2 k; omega
  · by_cases e : x = n
    · rw [e] at h1 h2; rw [hz] at h2; omega
    · exact hB2 x (by omega) p h1 h2
  · by_cases e : x = n
    · have z0 : szF pn kd on ot (7 + 1) n = 0 := by rw [szF_s, hz]; rfl
      rw [e, show szF pn kd on ot 8 n = 0 from z0]
      omega
    · exact h200 x (by omega)
end MTL
