section
variable {h : GH} {τ A : Nat → Nat} {td cu lg sv ex un : Int} {n : Nat} {fw of sc sz he : Nat → Int} {re : Nat → Nat} {le tg pn kd on ot : Nat → Int} {rk : Nat → Nat}
/-- the best of the first k, with its length -/
def BL (m : Nat → Prop) (le : Nat → Int) (k : Nat) (v L : Int) : Prop := (v = -1 ∧ L = 0 ∧ ∀ x, x < k → ¬ m x) ∨ ∃ b : Nat, v = (b : Nat) ∧ b < k ∧ m b ∧ L = le b ∧ ∀ x, x < k → m x → le x < le b ∨ (le x = le b ∧ b ≤ x)
theorem BL.best {m : Nat → Prop} {le : Nat → Int} {k : Nat} {v L : Int} (h : BL m le k v L) : BestP m le k v := by
  rcases h with ⟨h1, -, h3⟩ | ⟨b, h1, h2, h3, -, h5⟩
  · exact Or.inl ⟨h1, h3⟩
  · exact Or.inr ⟨b, h1, h2, h3, h5⟩
theorem BL.r {m : Nat → Prop} {le : Nat → Int} {k : Nat} {v L : Int} (h : BL m le k v L) (hk : k ≤ 8) (hl : ∀ x, x < k → 0 ≤ le x ∧ le x ≤ 6) : (-1 ≤ v ∧ v < 8) ∧ 0 ≤ L ∧ L ≤ 6 := by
  rcases h with ⟨h1, h2, h3⟩ | ⟨b, h1, h2, h3, h4, h5⟩
  · omega
  · have := hl b h2; omega
theorem BL.take {m : Nat → Prop} {le : Nat → Int} {k : Nat} {v L : Int} (h : BL m le k v L) (hm : m k) (hl : L < le k) : BL m le (k + 1) (k : Nat) (le k) := by
  refine Or.inr ⟨k, rfl, by omega, hm, rfl, fun x hx hmx => ?_⟩
  by_cases e : x = k
  · subst e; exact Or.inr ⟨rfl, Nat.le_refl _⟩
  · rcases h with ⟨h1, h2, h3⟩ | ⟨b, h1, h2, h3, h4, h5⟩
    · exact absurd hmx (h3 x (by omega))
    · have := h5 x (by omega) hmx
      omega
theorem BL.skip {m : Nat → Prop} {le : Nat → Int} {k : Nat} {v L : Int} (h : BL m le k v L) (hp : m k → 0 < le k) (hn : ¬ (m k ∧ L < le k)) : BL m le (k + 1) v L := by
  rcases h with ⟨h1, h2, h3⟩ | ⟨b, h1, h2, h3, h4, h5⟩
  · refine Or.inl ⟨h1, h2, fun x hx hmx => ?_⟩
    by_cases e : x = k
    · subst e; exact hn ⟨hmx, by have := hp hmx; omega⟩
    · exact h3 x (by omega) hmx
  · refine Or.inr ⟨b, h1, by omega, h3, h4, fun x hx hmx => ?_⟩
    by_cases e : x = k
    · subst e
      have : ¬ L < le x := fun z => hn ⟨hmx, z⟩
      omega
    · exact h5 x (by omega) hmx
/-- the match of the model, in the class's words -/
theorem mt_iff (hT : TOk (n : Nat) le of fw) {tx : Nat → Int} {c k : Nat} (hk : k < n) : mtP of le tg tx fw (c : Nat) k ↔ (0 < le k ∧ (le k).toNat ≤ c ∧ (∀ j : Nat, j < (le k).toNat → tx (c - (le k).toNat + j) = tg (6 * k + j)) ∧ 1 - of k = 1 ∧ (fw k = 0 ∨ c - (le k).toNat = 0 ∨ ¬ isWd (tx (c - (le k).toNat - 1)))) := by
  obtain ⟨⟨l0, l6⟩, lo, -⟩ := hT k (by omega)
  unfold mtP usedP
  constructor
  · rintro ⟨⟨a1, a2⟩, a3, a4, a5⟩
    refine ⟨a2, by omega, fun j hj => ?_, by omega, ?_⟩
    · have := a4 j (by omega)
      rw [show (((c : Nat) : Int) - le k).toNat + j = c - (le k).toNat + j by omega] at this
      exact this
    · rcases a5 with a5 | a5 | a5
      · exact Or.inl a5
      · exact Or.inr (Or.inl (by omega))
      · rw [show (((c : Nat) : Int) - le k - 1).toNat = c - (le k).toNat - 1 by omega] at a5
        exact Or.inr (Or.inr a5)
  · rintro ⟨a1, a2, a3, a4, a5⟩
    refine ⟨⟨by omega, a1⟩, by omega, fun j hj => ?_, ?_⟩
    · rw [show (((c : Nat) : Int) - le k).toNat + j = c - (le k).toNat + j by omega]
      exact a3 j (by omega)
    · rcases a5 with a5 | a5 | a5
      · exact Or.inl a5
      · exact Or.inr (Or.inl (by omega))
      · rw [show (((c : Nat) : Int) - le k - 1).toNat = c - (le k).toNat - 1 by omega]
        exact Or.inr (Or.inr a5)
/-- findByLooking() -/
theorem c_findLook (D : DD) (hX : XTop h τ A td cu lg sv ex un) (hn : n ≤ 8) (hS : XS D h τ A n fw of sc le tg pn kd on ot) (hT : TOk (n : Nat) le of fw) (hg : allC tg) {nl c m9 : Nat} {tx sp : Nat → Int} (hE : XTxt h τ (A 4) 5 nl tx m9 sp c) (hx : allC tx) (hc : c ≤ nl ∧ nl ≤ 80) : GMet D yX7_findByLooking cX7_findByLooking 6 (some .int) [] 6 0 0 [gR (some (A 0))] h (pr (gI (bsF (mtP of le tg tx fw (c : Nat)) le n 0 (-1))) (fun h1 => h1 = h)) := by
  refine GMet.intro RX7 rfl (by decide) (gcats rfl) (Nat.le_of_ble_eq_true rfl) fun K KX S => ?_
  show K 0 [some _, none, none, none, none, none] [] _ 0 0
  have g0 := hX.1
  obtain ⟨sz, he, re, hS9, hG⟩ := id hS
  obtain ⟨e9, cap, f, hl, hf, -, -⟩ := id hS9.1
  obtain ⟨m8, gl⟩ := hl.1
  obtain ⟨rc, ac, rs, as_, ⟨e1, ⟨f2, e2, e2f⟩, ⟨f3, e3, e3f⟩, e4, e5⟩, e6⟩ := id hE
  have e2a := e2.1
  have ir : ∀ q, inR (tg q) := fun q => by have := hg q; unfold inR; omega
  have i2 : ∀ j, j < nl → inR (f2 j) := fun j hj => by rw [e2f j hj]; have := hx j; unfold inR; omega
  have lr : ∀ x, x < n → 0 ≤ le x ∧ le x ≤ 6 := fun x hx => (hT x (by omega)).1
  have loop : ∀ (d k : Nat) (v L : Int) (l4 l5 : Option GV), k + d = n → BL (mtP of le tg tx fw (c : Nat)) le k v L → K 6 [some (gR (some (A 0))), some (gI v), some (gI L), some (gI k), l4, l5] [] h 0 0 := by
    intro d
    induction d with
    | zero =>
      intro k v L l4 l5 hk hv
      have hr := hv.r (by omega) (fun x z => lr x (by omega))
      refine k_iload_n S dX7_findByLooking_6 rfl ?_
      refine k_aload_n S dX7_findByLooking_7 rfl ?_
      refine k_getf S dX7_findByLooking_8 f_X7_12 (by assumption) (by rfl) ?_
      refine k_callV_r S dX7_findByLooking_11 v_X7_61 (li_size D hl) (by assumption) (fun h11 hp11 => ?_) rfl rfl (by decide) (by omega) (by omega) (Nat.le_of_ble_eq_true rfl)
      rw [hp11]
      refine k_icmp_ge (tgt := 95) S dX7_findByLooking_14 (by decide) (by omega) (by omega) (fun c14 => ?_) (fun c14 => ?_)
      · refine k_iload_n S dX7_findByLooking_95 rfl ?_
        exact k_ireturn S dX7_findByLooking_96 ⟨by rw [show k = n by omega] at hv; rw [hv.best.is], rfl⟩ (by omega) (by omega)
      · omega
    | succ d ih =>
      intro k v L l4 l5 hk hv
      have hkn : k < n := by omega
      have hr := hv.r (by omega) (fun x z => lr x (by omega))
      obtain ⟨gk, tk⟩ := id (hS9.2.1 k hkn)
      obtain ⟨a1, ⟨f1, q1, q1f⟩, -⟩ := hS9.2.2.1 k hkn
      have q1a := q1.1
      have i1 : ∀ j, j < (le k).toNat → inR (f1 j) := fun j hj => by rw [q1f j hj]; exact ir _
      have lk := lr k hkn
      obtain ⟨-, ho, hw⟩ := hT k (by omega)
      have mi := mt_iff (tg := tg) (tx := tx) (c := c) hT hkn
      have ec : ((((le k).toNat : Nat) : Int) ≤ ((c : Nat) : Int) ∧ ((c : Nat) : Int) ≤ (nl : Nat) ∧ ∀ j : Nat, j < (le k).toNat → f2 (((c : Nat) : Int).toNat - (le k).toNat + j) = f1 j) ↔ ((le k).toNat ≤ c ∧ ∀ j : Nat, j < (le k).toNat → tx (c - (le k).toNat + j) = tg (6 * k + j)) := by
        rw [show ((c : Nat) : Int).toNat = c by omega]
        constructor
        · rintro ⟨z1, z2, z3⟩
          refine ⟨by omega, fun j hj => ?_⟩
          have := z3 j hj
          rw [q1f j hj, e2f _ (by omega)] at this
          exact this
        · rintro ⟨z1, z2⟩
          refine ⟨by omega, by omega, fun j hj => ?_⟩
          rw [q1f j hj, e2f _ (by omega)]
          exact z2 j hj
      have skip : ¬ ((mtP of le tg tx fw (c : Nat)) k ∧ L < le k) → ∀ l4 l5 : Option GV, K 89 [some (gR (some (A 0))), some (gI v), some (gI L), some (gI k), l4, l5] [] h 0 0 := fun hno l4 l5 => by
        refine k_iinc S dX7_findByLooking_89 rfl (by decide) ?_
        refine k_goto (tgt := 6) S dX7_findByLooking_92 (by decide) ?_
        exact ih (k + 1) v L l4 l5 (by omega) (hv.skip (fun z => (mi.mp z).1) hno)
      refine k_iload_n S dX7_findByLooking_6 rfl ?_
      refine k_aload_n S dX7_findByLooking_7 rfl ?_
      refine k_getf S dX7_findByLooking_8 f_X7_12 (by assumption) (by rfl) ?_
      refine k_callV_r S dX7_findByLooking_11 v_X7_61 (li_size D hl) (by assumption) (fun h11 hp11 => ?_) rfl rfl (by decide) (by omega) (by omega) (Nat.le_of_ble_eq_true rfl)
      rw [hp11]
      refine k_icmp_ge (tgt := 95) S dX7_findByLooking_14 (by decide) (by omega) (by omega) (fun c14 => ?_) (fun c14 => ?_)
      · omega
      · refine k_aload_n S dX7_findByLooking_17 rfl ?_
        refine k_iload_n S dX7_findByLooking_18 rfl ?_
        refine k_callV_r S dX7_findByLooking_19 v_X7_81 (c_snAt_g D hX hS9.1 hn hkn gk) (by assumption) (fun h19 hp19 => ?_) rfl rfl (by decide) (by omega) (by omega) (Nat.le_of_ble_eq_true rfl)
        rw [hp19]
        refine k_astore S dX7_findByLooking_22 (by decide) ?_
        refine k_aload S dX7_findByLooking_24 rfl ?_
        refine k_getf S dX7_findByLooking_26 f_X7_89 (by assumption) (by rfl) ?_
        refine k_callV_r S dX7_findByLooking_29 v_X7_107 (row_count D q1) (by assumption) (fun h29 hp29 => ?_) rfl rfl (by decide) (by omega) (by omega) (Nat.le_of_ble_eq_true rfl)
        rw [hp29]
        refine k_istore S dX7_findByLooking_32 (by decide) ?_
        refine k_iload S dX7_findByLooking_34 rfl ?_
        refine k_iload_n S dX7_findByLooking_36 rfl ?_
        refine k_icmp_le (tgt := 89) S dX7_findByLooking_37 (by decide) (by omega) (by omega) (fun c37 => ?_) (fun c37 => ?_)
        · exact skip (fun z => by omega) _ _
        · refine k_aload_n S dX7_findByLooking_40 rfl ?_
          refine k_getf S dX7_findByLooking_41 f_X7_33 (by assumption) (by rfl) ?_
          refine k_getf S dX7_findByLooking_44 f_X7_205 (by assumption) (by rfl) ?_
          refine k_aload S dX7_findByLooking_47 rfl ?_
          refine k_getf S dX7_findByLooking_49 f_X7_89 (by assumption) (by rfl) ?_
          refine k_aload_n S dX7_findByLooking_52 rfl ?_
          refine k_getf S dX7_findByLooking_53 f_X7_33 (by assumption) (by rfl) ?_
          refine k_getf S dX7_findByLooking_56 f_X7_218 (by assumption) (by rfl) ?_
          refine k_callV_r S dX7_findByLooking_59 v_X7_331 (row_endsWith D e2 q1 i2 i1 (t := ((c : Nat) : Int)) (by omega)) (by assumption) (fun h59 hp59 => ?_) rfl rfl (by decide) (by omega) (by omega) (Nat.le_of_ble_eq_true rfl)
          rw [hp59, b01_c ec]
          refine k_if_eq (tgt := 89) S dX7_findByLooking_62 (by decide) (b01_r _) (fun c62 => ?_) (fun c62 => ?_)
          · exact skip (fun z => by have := mi.mp z.1; exact b01_0.mp c62 ⟨this.2.1, this.2.2.1⟩) _ _
          · obtain ⟨y1, y2⟩ := b01_n.mp c62
            refine k_aload_n S dX7_findByLooking_65 rfl ?_
            refine k_aload S dX7_findByLooking_66 rfl ?_
            refine k_aload_n S dX7_findByLooking_68 rfl ?_
            refine k_getf S dX7_findByLooking_69 f_X7_33 (by assumption) (by rfl) ?_
            refine k_getf S dX7_findByLooking_72 f_X7_218 (by assumption) (by rfl) ?_
            refine k_iload S dX7_findByLooking_75 rfl ?_
            refine k_isub S dX7_findByLooking_77 ?_
            rw [show ((c : Nat) : Int) - (((le k).toNat : Nat) : Int) = ((c - (le k).toNat : Nat) : Int) by omega]
            refine k_callV_r S dX7_findByLooking_78 v_X7_348 (c_isReady D hX hE (fun q _ => hx q) (p := c - (le k).toNat) (by omega) (hS9.2.1 k hkn) ⟨hw, by omega⟩) (by assumption) (fun h78 hp78 => ?_) rfl rfl (by decide) (by omega) (by omega) (Nat.le_of_ble_eq_true rfl)
            rw [hp78]
            refine k_if_eq (tgt := 89) S dX7_findByLooking_81 (by decide) (b01_r _) (fun c81 => ?_) (fun c81 => ?_)
            · exact skip (fun z => by have := mi.mp z.1; exact b01_0.mp c81 ⟨this.2.2.2.1, this.2.2.2.2⟩) _ _
            · obtain ⟨y3, y4⟩ := b01_n.mp c81
              refine k_iload_n S dX7_findByLooking_84 rfl ?_
              refine k_istore_n S dX7_findByLooking_85 (by decide) ?_
              refine k_iload S dX7_findByLooking_86 rfl ?_
              refine k_istore_n S dX7_findByLooking_88 (by decide) ?_
              refine k_iinc S dX7_findByLooking_89 rfl (by decide) ?_
              refine k_goto (tgt := 6) S dX7_findByLooking_92 (by decide) ?_
              rw [show (((le k).toNat : Nat) : Int) = le k by omega]
              exact ih (k + 1) (k : Nat) (le k) _ _ (by omega) (hv.take (mi.mpr ⟨by omega, y1, y2, y3, y4⟩) (by omega))
  refine k_iconst S dX7_findByLooking_0 ?_
  refine k_istore_n S dX7_findByLooking_1 (by decide) ?_
  refine k_iconst S dX7_findByLooking_2 ?_
  refine k_istore_n S dX7_findByLooking_3 (by decide) ?_
  refine k_iconst S dX7_findByLooking_4 ?_
  refine k_istore_n S dX7_findByLooking_5 (by decide) ?_
  exact loop n 0 (-1) 0 none none (by omega) (Or.inl ⟨rfl, rfl, fun x hx => by omega⟩)
/-- lowestReady(numbers, triggerStart) -/
theorem c_lowReady (D : DD) (hX : XTop h τ A td cu lg sv ex un) (hn : n ≤ 8) (hS : XS D h τ A n fw of sc le tg pn kd on ot) (hT : TOk (n : Nat) le of fw) (hg : allC tg) {nl c m9 : Nat} {tx sp : Nat → Int} (hE : XTxt h τ (A 4) 5 nl tx m9 sp c) (hx : allC tx) (hc : c ≤ nl ∧ nl ≤ 80) {e p : Nat} (he9 : e < 256) (hp : p ≤ nl) : GMet D yX7_lowestReady cX7_lowestReady 4 (some .int) [] 5 0 0 [gR (some (A 0)), gI e, gI p] h (pr (gI (fstF (fun k => e.testBit k = true ∧ 1 - of k = 1 ∧ (fw k = 0 ∨ p = 0 ∨ ¬ isWd (tx (p - 1)))) n 0)) (fun h1 => h1 = h)) := by
  refine GMet.intro RX7 rfl (by decide) (gcats rfl) (Nat.le_of_ble_eq_true rfl) fun K KX S => ?_
  show K 0 [some _, some _, some _, none] [] _ 0 0
  have g0 := hX.1
  obtain ⟨sz, he, re, hS9, hG⟩ := id hS
  obtain ⟨e9, cap, f, hl, hf, -, -⟩ := id hS9.1
  obtain ⟨m8, gl⟩ := hl.1
  have loop : ∀ (d k : Nat), k + d = n → fstF (fun k => e.testBit k = true ∧ 1 - of k = 1 ∧ (fw k = 0 ∨ p = 0 ∨ ¬ isWd (tx (p - 1)))) n 0 = fstF (fun k => e.testBit k = true ∧ 1 - of k = 1 ∧ (fw k = 0 ∨ p = 0 ∨ ¬ isWd (tx (p - 1)))) d k → K 2 [some (gR (some (A 0))), some (gI e), some (gI p), some (gI k)] [] h 0 0 := by
    intro d
    induction d with
    | zero =>
      intro k hk hv
      refine k_iload_n S dX7_lowestReady_2 rfl ?_
      refine k_aload_n S dX7_lowestReady_3 rfl ?_
      refine k_getf S dX7_lowestReady_4 f_X7_12 (by assumption) (by rfl) ?_
      refine k_callV_r S dX7_lowestReady_7 v_X7_61 (li_size D hl) (by assumption) (fun h7 hp7 => ?_) rfl rfl (by decide) (by omega) (by omega) (Nat.le_of_ble_eq_true rfl)
      rw [hp7]
      refine k_icmp_ge (tgt := 43) S dX7_lowestReady_10 (by decide) (by omega) (by omega) (fun c10 => ?_) (fun c10 => ?_)
      · refine k_iconst S dX7_lowestReady_43 ?_
        exact k_ireturn S dX7_lowestReady_44 ⟨by rw [hv]; rfl, rfl⟩ (by omega) (by omega)
      · omega
    | succ d ih =>
      intro k hk hv
      have hkn : k < n := by omega
      obtain ⟨gk, tk⟩ := id (hS9.2.1 k hkn)
      obtain ⟨-, ho, hw⟩ := hT k (by omega)
      have b1 : bAnd (bShr (e : Nat) (k : Nat)) 1 = if e.testBit k then 1 else 0 := bit1 (by omega) (by omega)
      refine k_iload_n S dX7_lowestReady_2 rfl ?_
      refine k_aload_n S dX7_lowestReady_3 rfl ?_
      refine k_getf S dX7_lowestReady_4 f_X7_12 (by assumption) (by rfl) ?_
      refine k_callV_r S dX7_lowestReady_7 v_X7_61 (li_size D hl) (by assumption) (fun h7 hp7 => ?_) rfl rfl (by decide) (by omega) (by omega) (Nat.le_of_ble_eq_true rfl)
      rw [hp7]
      refine k_icmp_ge (tgt := 43) S dX7_lowestReady_10 (by decide) (by omega) (by omega) (fun c10 => ?_) (fun c10 => ?_)
      · omega
      · have skip : ¬ (fun k => e.testBit k = true ∧ 1 - of k = 1 ∧ (fw k = 0 ∨ p = 0 ∨ ¬ isWd (tx (p - 1)))) k → K 37 [some (gR (some (A 0))), some (gI e), some (gI p), some (gI k)] [] h 0 0 := fun hno => by
          refine k_iinc S dX7_lowestReady_37 rfl (by decide) ?_
          refine k_goto (tgt := 2) S dX7_lowestReady_40 (by decide) ?_
          exact ih (k + 1) (by omega) (by rw [hv, fstF_f hno])
        refine k_iload_n S dX7_lowestReady_13 rfl ?_
        refine k_iload_n S dX7_lowestReady_14 rfl ?_
        refine k_ishr S dX7_lowestReady_15 ?_
        refine k_iconst S dX7_lowestReady_16 ?_
        refine k_iand S dX7_lowestReady_17 ?_
        rw [b1]
        by_cases hb : e.testBit k = true
        · rw [if_pos hb]
          refine k_iconst S dX7_lowestReady_18 ?_
          refine k_icmp_ne (tgt := 37) S dX7_lowestReady_19 (by decide) (by omega) (by omega) (fun c19 => ?_) (fun c19 => ?_)
          · omega
          · refine k_aload_n S dX7_lowestReady_22 rfl ?_
            refine k_aload_n S dX7_lowestReady_23 rfl ?_
            refine k_iload_n S dX7_lowestReady_24 rfl ?_
            refine k_callV_r S dX7_lowestReady_25 v_X7_81 (c_snAt_g D hX hS9.1 hn hkn gk) (by assumption) (fun h25 hp25 => ?_) rfl rfl (by decide) (by omega) (by omega) (Nat.le_of_ble_eq_true rfl)
            rw [hp25]
            refine k_iload_n S dX7_lowestReady_28 rfl ?_
            refine k_callV_r S dX7_lowestReady_29 v_X7_348 (c_isReady D hX hE (fun q _ => hx q) hp (hS9.2.1 k hkn) ⟨hw, by omega⟩) (by assumption) (fun h29 hp29 => ?_) rfl rfl (by decide) (by omega) (by omega) (Nat.le_of_ble_eq_true rfl)
            rw [hp29]
            refine k_if_eq (tgt := 37) S dX7_lowestReady_32 (by decide) (b01_r _) (fun c32 => ?_) (fun c32 => ?_)
            · exact skip (fun z => b01_0.mp c32 z.2)
            · refine k_iload_n S dX7_lowestReady_35 rfl ?_
              exact k_ireturn S dX7_lowestReady_36 ⟨by rw [hv, fstF_t ⟨hb, b01_n.mp c32⟩], rfl⟩ (by omega) (by omega)
        · rw [if_neg hb]
          refine k_iconst S dX7_lowestReady_18 ?_
          refine k_icmp_ne (tgt := 37) S dX7_lowestReady_19 (by decide) (by omega) (by omega) (fun c19 => ?_) (fun c19 => ?_)
          · exact skip (fun z => hb z.1)
          · omega
  refine k_iconst S dX7_lowestReady_0 ?_
  refine k_istore_n S dX7_lowestReady_1 (by decide) ?_
  exact loop n 0 (by omega) rfl
/-- a node above, on the path of a word -/
theorem isP_up {M : Nat} {P C f : Nat → Int} (hw : twf M P C) : ∀ (a b i j : Nat), j < M → isP P C f (a + b) i j → ∃ j1, j1 < M ∧ isP P C f b (i + a) j1
  | 0, b, i, j, hj, h => ⟨j, hj, by rw [Nat.zero_add] at h; exact h⟩
  | a + 1, b, i, j, hj, h => by
    rw [show a + 1 + b = a + b + 1 by omega] at h
    obtain ⟨h1, h2, h3⟩ := h
    have := hw.2.1 j h1 hj
    obtain ⟨j1, z1, z2⟩ := isP_up hw a b (i + 1) (P j).toNat (by omega) h3
    exact ⟨j1, z1, by rw [show i + (a + 1) = i + 1 + a by omega]; exact z2⟩
/-- findInTree() -/
theorem c_findTree (D : DD) (hX : XTop h τ A td cu lg sv ex un) (hn : n ≤ 8) (hS : XS D h τ A n fw of sc le tg pn kd on ot) (hT : TOk (n : Nat) le of fw) (hg : allC tg) {nl c m9 : Nat} {tx sp : Nat → Int} (hE : XTxt h τ (A 4) 5 nl tx m9 sp c) (hx : allC tx) (hc : c ≤ nl ∧ nl ≤ 80) (hTr : XTre h τ (A 2) n le tg) : GMet D yX7_findInTree cX7_findInTree 6 (some .int) [] 6 0 0 [gR (some (A 0))] h (pr (gI (bsF (mtP of le tg tx fw (c : Nat)) le n 0 (-1))) (fun h1 => h1 = h)) := by
  refine GMet.intro RX7 rfl (by decide) (gcats rfl) (Nat.le_of_ble_eq_true rfl) fun K KX S => ?_
  show K 0 [some _, none, none, none, none, none] [] _ 0 0
  have g0 := hX.1
  obtain ⟨M, P, C, E, tr, hw, hM, hH1, hH2⟩ := hTr
  have trr := id tr
  obtain ⟨r0, a0, r1, a1, r2, a2, y0, -⟩ := id tr
  obtain ⟨rc, ac, rs, as_, ⟨e1, ⟨f2, e2, e2f⟩, ⟨f3, e3, e3f⟩, e4, e5⟩, e6⟩ := id hE
  have e2a := e2.1
  have lr : ∀ x, x < n → 0 ≤ le x ∧ le x ≤ 6 := fun x hx => (hT x (by omega)).1
  have mi := fun k (hk : k < n) => mt_iff (tg := tg) (tx := tx) (c := c) hT hk
  have fin : ∀ v : Int, BestP (mtP of le tg tx fw (c : Nat)) le n v → v = bsF (mtP of le tg tx fw (c : Nat)) le n 0 (-1) := fun v hv => hv.is
  have loop : ∀ (d b : Nat) (v : Int) (node : Nat) (l4 l5 : Option GV), b + d = 7 → 1 ≤ b → node < M → b ≤ c + 1 → isP P C tx (b - 1) (c - (b - 1)) node → BestP (fun k => (mtP of le tg tx fw (c : Nat)) k ∧ le k ≤ (b - 1 : Nat)) le n v → K 6 [some (gR (some (A 0))), some (gI v), some (gI node), some (gI b), l4, l5] [] h 0 0 := by
    intro d
    induction d with
    | zero =>
      intro b v node l4 l5 hb hb1 hno hbc hpa hv
      refine k_iload_n S dX7_findInTree_6 rfl ?_
      refine k_bipush S dX7_findInTree_7 ?_
      refine k_icmp_gt (tgt := 97) S dX7_findInTree_9 (by decide) (by omega) (by omega) (fun c9 => ?_) (fun c9 => ?_)
      · refine k_iload_n S dX7_findInTree_97 rfl ?_
        exact k_ireturn S dX7_findInTree_98 ⟨by rw [← fin v (hv.cg fun x hx => ⟨fun z => z.1, fun z => ⟨z, by have := lr x hx; omega⟩⟩)], rfl⟩ (by omega) (by omega)
      · omega
    | succ d ih =>
      intro b v node l4 l5 hb hb1 hno hbc hpa hv
      refine k_iload_n S dX7_findInTree_6 rfl ?_
      refine k_bipush S dX7_findInTree_7 ?_
      refine k_icmp_gt (tgt := 97) S dX7_findInTree_9 (by decide) (by omega) (by omega) (fun c9 => ?_) (fun c9 => ?_)
      · omega
      · refine k_iload_n S dX7_findInTree_12 rfl ?_
        refine k_aload_n S dX7_findInTree_13 rfl ?_
        refine k_getf S dX7_findInTree_14 f_X7_33 (by assumption) (by rfl) ?_
        refine k_getf S dX7_findInTree_17 f_X7_218 (by assumption) (by rfl) ?_
        refine k_icmp_gt (tgt := 97) S dX7_findInTree_20 (by decide) (by omega) (by omega) (fun c20 => ?_) (fun c20 => ?_)
        · refine k_iload_n S dX7_findInTree_97 rfl ?_
          exact k_ireturn S dX7_findInTree_98 ⟨by rw [← fin v (hv.cg fun x hx => ⟨fun z => z.1, fun z => ⟨z, by have := ((mi x hx).mp z).2.1; have := lr x hx; omega⟩⟩)], rfl⟩ (by omega) (by omega)
        · refine k_aload_n S dX7_findInTree_23 rfl ?_
          refine k_getf S dX7_findInTree_24 f_X7_33 (by assumption) (by rfl) ?_
          refine k_getf S dX7_findInTree_27 f_X7_218 (by assumption) (by rfl) ?_
          refine k_iload_n S dX7_findInTree_30 rfl ?_
          refine k_isub S dX7_findInTree_31 ?_
          rw [show ((c : Nat) : Int) - ((b : Nat) : Int) = ((c - b : Nat) : Int) by omega]
          have ev : (if 0 ≤ ((c - b : Nat) : Int) ∧ ((c - b : Nat) : Int) < ((nl : Nat) : Int) then f2 (((c - b : Nat) : Int)).toNat else 0) = tx (c - b) := by
            rw [if_pos (by omega), show (((c - b : Nat) : Int)).toNat = c - b by omega, e2f (c - b) (by omega)]
          have xr := hx (c - b)
          refine k_istore S dX7_findInTree_32 (by decide) ?_
          refine k_aload_n S dX7_findInTree_34 rfl ?_
          refine k_getf S dX7_findInTree_35 f_X7_19 (by assumption) (by rfl) ?_
          refine k_iload_n S dX7_findInTree_38 rfl ?_
          refine k_aload_n S dX7_findInTree_39 rfl ?_
          refine k_getf S dX7_findInTree_40 f_X7_33 (by assumption) (by rfl) ?_
          refine k_getf S dX7_findInTree_43 f_X7_205 (by assumption) (by rfl) ?_
          refine k_iload S dX7_findInTree_46 rfl ?_
          refine k_callV_r S dX7_findInTree_48 v_X7_178 (row_at D e2 (by unfold inR; omega)) (by assumption) (fun h48 hp48 => ?_) rfl rfl (by decide) (by omega) (by omega) (Nat.le_of_ble_eq_true rfl)
          rw [hp48, ev]
          have tcr := tch_r (P := P) (C := C) (node := (node : Nat)) (ch := tx (c - b)) (d := M - 1) (j := 1) (by have := hw.1.1; omega)
          refine k_callV_r S dX7_findInTree_51 v_X7_339 (tr_childOf D tr (node := ((node : Nat) : Int)) (ch := tx (c - b)) hw.1.1 (hw.in hM) (by unfold inR; omega) (by unfold inR; omega)) (by assumption) (fun h51 hp51 => ?_) rfl rfl (by decide) (by omega) (by omega) (Nat.le_of_ble_eq_true rfl)
          rw [hp51]
          refine k_istore_n S dX7_findInTree_54 (by decide) ?_
          rcases tch_at (P := P) (C := C) (node := (node : Nat)) (ch := tx (c - b)) (M - 1) 1 with ⟨z1, z2⟩ | ⟨i, z1, z2, z3, z4, z5⟩
          · rw [z1]
            refine k_iload_n S dX7_findInTree_55 rfl ?_
            refine k_iconst S dX7_findInTree_56 ?_
            refine k_icmp_ne (tgt := 62) S dX7_findInTree_57 (by decide) (by omega) (by omega) (fun c57 => ?_) (fun c57 => ?_)
            · omega
            · have hv2 : BestP (mtP of le tg tx fw (c : Nat)) le n v := hv.cg fun x hx => ⟨fun z => z.1, fun z => ⟨z, by
                obtain ⟨w1, w2, w3, -⟩ := (mi x hx).mp z
                have lx := lr x hx
                refine Classical.byContradiction fun hcon => ?_
                obtain ⟨j, j1, j2⟩ := hH1 x hx w1
                have j3 : isP P C tx (le x).toNat (c - (le x).toNat) j := isP_cg _ _ _ _ (fun q hq => by rw [w3 q hq, Nat.zero_add]) j2
                rw [show (le x).toNat = ((le x).toNat - b) + b by omega] at j3
                obtain ⟨j4, j5, j6⟩ := isP_up hw _ _ _ _ j1 j3
                rw [show c - ((le x).toNat - b + b) + ((le x).toNat - b) = c - b by omega] at j6
                rw [show b = (b - 1) + 1 by omega] at j6
                obtain ⟨j7, j8, j9⟩ := j6
                have pj := hw.2.1 j4 j7 j5
                rw [show c - (b - 1 + 1) + 1 = c - (b - 1) by omega] at j9
                have j10 := isP_uniq hw _ _ _ _ (by omega) hno j9 hpa
                refine z2 j4 j7 (by omega) ⟨by omega, ?_⟩
                rw [j8, show c - (b - 1 + 1) = c - b by omega]⟩⟩
              refine k_iload_n S dX7_findInTree_60 rfl ?_
              exact k_ireturn S dX7_findInTree_61 ⟨by rw [← fin v hv2], rfl⟩ (by omega) (by omega)
          · rw [z1]
            refine k_iload_n S dX7_findInTree_55 rfl ?_
            refine k_iconst S dX7_findInTree_56 ?_
            refine k_icmp_ne (tgt := 62) S dX7_findInTree_57 (by decide) (by omega) (by omega) (fun c57 => ?_) (fun c57 => ?_)
            · have hiM : i < M := by omega
              have hpi : isP P C tx b (c - b) i := by
                rw [show b = (b - 1) + 1 by omega]
                refine ⟨z2, ?_, ?_⟩
                · rw [z5, show c - (b - 1 + 1) = c - b by omega]
                · rw [z4, show (((node : Nat) : Int)).toNat = node by omega, show c - (b - 1 + 1) + 1 = c - (b - 1) by omega]
                  exact hpa
              obtain ⟨e, he1, he2, he3⟩ := hH2 i hiM
              have bit : ∀ k, k < n → (e.testBit k = true ↔ (0 < le k ∧ (le k).toNat = b ∧ ∀ q, q < b → tx (c - b + q) = tg (6 * k + q))) := fun k hk => by
                refine (he3 k (by omega)).trans ?_
                constructor
                · rintro ⟨u1, u2, u3⟩
                  obtain ⟨u4, u5⟩ := isP_same hw _ _ _ _ _ hiM u3 hpi
                  refine ⟨u2, u4, fun q hq => ?_⟩
                  have := u5 q (by omega)
                  rw [Nat.zero_add] at this
                  exact this.symm
                · rintro ⟨u1, u2, u3⟩
                  refine ⟨hk, u1, ?_⟩
                  rw [u2]
                  exact isP_cg _ _ _ _ (fun q hq => by rw [Nat.zero_add]; exact u3 q hq) hpi
              have md : ∀ k, k < n → ((e.testBit k = true ∧ 1 - of k = 1 ∧ (fw k = 0 ∨ c - b = 0 ∨ ¬ isWd (tx (c - b - 1)))) ↔ ((mtP of le tg tx fw (c : Nat)) k ∧ le k = (b : Nat))) := fun k hk => by
                have lk := lr k hk
                rw [bit k hk, mi k hk]
                constructor
                · rintro ⟨⟨u1, u2, u3⟩, u4, u5⟩
                  rw [u2]
                  exact ⟨⟨u1, by omega, u3, u4, u5⟩, by omega⟩
                · rintro ⟨⟨u1, u2, u3, u4, u5⟩, u6⟩
                  rw [show (le k).toNat = b by omega] at u2 u3 u5
                  exact ⟨⟨u1, by omega, u3⟩, u4, u5⟩
              refine k_aload_n S dX7_findInTree_62 rfl ?_
              refine k_aload_n S dX7_findInTree_63 rfl ?_
              refine k_getf S dX7_findInTree_64 f_X7_19 (by assumption) (by rfl) ?_
              refine k_iload_n S dX7_findInTree_67 rfl ?_
              refine k_callV_r S dX7_findInTree_68 v_X7_342 (tr_endingsAt D tr hiM) (by assumption) (fun h68 hp68 => ?_) rfl rfl (by decide) (by omega) (by omega) (Nat.le_of_ble_eq_true rfl)
              rw [hp68, he1]
              have fr := fstF_r (p := (fun k => e.testBit k = true ∧ 1 - of k = 1 ∧ (fw k = 0 ∨ c - b = 0 ∨ ¬ isWd (tx (c - b - 1))))) (d := n) (j := 0) (by omega)
              refine k_iload S dX7_findInTree_71 rfl ?_
              refine k_callV_r S dX7_findInTree_73 v_X7_345 (c_lowReady D hX hn hS hT hg hE hx hc (e := e) (p := c - b) he2 (by omega)) (by assumption) (fun h73 hp73 => ?_) rfl rfl (by decide) (by omega) (by omega) (Nat.le_of_ble_eq_true rfl)
              rw [hp73]
              refine k_istore S dX7_findInTree_76 (by decide) ?_
              refine k_iload S dX7_findInTree_78 rfl ?_
              refine k_iconst S dX7_findInTree_80 ?_
              refine k_icmp_ne (tgt := 88) S dX7_findInTree_81 (by decide) (by omega) (by omega) (fun c81 => ?_) (fun c81 => ?_)
              · refine k_iload S dX7_findInTree_88 rfl ?_
                refine k_istore_n S dX7_findInTree_90 (by decide) ?_
                refine k_iinc S dX7_findInTree_91 rfl (by decide) ?_
                refine k_goto (tgt := 6) S dX7_findInTree_94 (by decide) ?_
                refine ih (b + 1) _ i _ _ (by omega) (by omega) hiM (by omega) (by rw [show b + 1 - 1 = b by omega]; exact hpi) ?_
                rcases fstF_at (p := (fun k => e.testBit k = true ∧ 1 - of k = 1 ∧ (fw k = 0 ∨ c - b = 0 ∨ ¬ isWd (tx (c - b - 1))))) n 0 with ⟨u1, u2⟩ | ⟨k, u1, u2, u3, u4, u5⟩
                · omega
                · obtain ⟨w1, w2⟩ := (md k (by omega)).mp u4
                  rw [u1, show b + 1 - 1 = b by omega]
                  refine Or.inr ⟨k, rfl, by omega, ⟨w1, by omega⟩, fun x hx hmx => ?_⟩
                  by_cases e8 : le x = (b : Nat)
                  · refine Or.inr ⟨by omega, Classical.byContradiction fun hlt => ?_⟩
                    exact u5 x (by omega) (by omega) ((md x hx).mpr ⟨hmx.1, e8⟩)
                  · exact Or.inl (by have := hmx.2; omega)
              · refine k_iload_n S dX7_findInTree_84 rfl ?_
                refine k_goto (tgt := 90) S dX7_findInTree_85 (by decide) ?_
                refine k_istore_n S dX7_findInTree_90 (by decide) ?_
                refine k_iinc S dX7_findInTree_91 rfl (by decide) ?_
                refine k_goto (tgt := 6) S dX7_findInTree_94 (by decide) ?_
                refine ih (b + 1) _ i _ _ (by omega) (by omega) hiM (by omega) (by rw [show b + 1 - 1 = b by omega]; exact hpi) ?_
                rcases fstF_at (p := (fun k => e.testBit k = true ∧ 1 - of k = 1 ∧ (fw k = 0 ∨ c - b = 0 ∨ ¬ isWd (tx (c - b - 1))))) n 0 with ⟨u1, u2⟩ | ⟨k, u1, u2, u3, u4, u5⟩
                · refine hv.cg fun x hx => ⟨fun z => ⟨z.1, by have := z.2; omega⟩, fun z => ⟨z.1, ?_⟩⟩
                  have nb : ¬ le x = (b : Nat) := fun e8 => u2 x (by omega) (by omega) ((md x hx).mpr ⟨z.1, e8⟩)
                  have := z.2
                  omega
                · omega
            · omega
  refine k_iconst S dX7_findInTree_0 ?_
  refine k_istore_n S dX7_findInTree_1 (by decide) ?_
  refine k_iconst S dX7_findInTree_2 ?_
  refine k_istore_n S dX7_findInTree_3 (by decide) ?_
  refine k_iconst S dX7_findInTree_4 ?_
  refine k_istore_n S dX7_findInTree_5 (by decide) ?_
  refine loop 6 1 (-1) 0 none none (by omega) (by omega) (by have := hw.1.1; omega) (by omega) rfl (Or.inl ⟨rfl, fun x hx z => ?_⟩)
  have := ((mi x hx).mp z.1).1
  have := z.2
  omega
/-- matching -/
theorem c_matching (D : DD) (hX : XTop h τ A td cu lg sv ex un) (hn : n ≤ 8) (hS : XS D h τ A n fw of sc le tg pn kd on ot) (hT : TOk (n : Nat) le of fw) (hg : allC tg) {nl c m9 : Nat} {tx sp : Nat → Int} (hE : XTxt h τ (A 4) 5 nl tx m9 sp c) (hx : allC tx) (hc : c ≤ nl ∧ nl ≤ 80) (hTr : XTre h τ (A 2) n le tg) : GMet D yX7_matching cX7_matching 1 (some .int) [] 7 0 0 [gR (some (A 0))] h (pr (gI (bsF (mtP of le tg tx fw (c : Nat)) le n 0 (-1))) (fun h1 => h1 = h)) := by
  refine GMet.intro RX7 rfl (by decide) (gcats rfl) (Nat.le_of_ble_eq_true rfl) fun K KX S => ?_
  show K 0 [some _] [] _ 0 0
  have g0 := hX.1
  refine k_aload_n S dX7_matching_0 rfl ?_
  refine k_callV_r S dX7_matching_1 v_X7_211 (c_findTree D hX hn hS hT hg hE hx hc hTr) (by assumption) (fun h1 hp1 => ?_) rfl rfl (by decide) (by omega) (by omega) (Nat.le_of_ble_eq_true rfl)
  rw [hp1]
  exact k_ireturn S dX7_matching_4 ⟨rfl, rfl⟩ (by omega) (by omega)
/-- matching -/
theorem c_mbl (D : DD) (hX : XTop h τ A td cu lg sv ex un) (hn : n ≤ 8) (hS : XS D h τ A n fw of sc le tg pn kd on ot) (hT : TOk (n : Nat) le of fw) (hg : allC tg) {nl c m9 : Nat} {tx sp : Nat → Int} (hE : XTxt h τ (A 4) 5 nl tx m9 sp c) (hx : allC tx) (hc : c ≤ nl ∧ nl ≤ 80) : GMet D yX7_matchingByLooking cX7_matchingByLooking 1 (some .int) [] 7 0 0 [gR (some (A 0))] h (pr (gI (bsF (mtP of le tg tx fw (c : Nat)) le n 0 (-1))) (fun h1 => h1 = h)) := by
  refine GMet.intro RX7 rfl (by decide) (gcats rfl) (Nat.le_of_ble_eq_true rfl) fun K KX S => ?_
  show K 0 [some _] [] _ 0 0
  have g0 := hX.1
  refine k_aload_n S dX7_matchingByLooking_0 rfl ?_
  refine k_callV_r S dX7_matchingByLooking_1 v_X7_243 (c_findLook D hX hn hS hT hg hE hx hc) (by assumption) (fun h1 hp1 => ?_) rfl rfl (by decide) (by omega) (by omega) (Nat.le_of_ble_eq_true rfl)
  rw [hp1]
  exact k_ireturn S dX7_matchingByLooking_4 ⟨rfl, rfl⟩ (by omega) (by omega)
end
