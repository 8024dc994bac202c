/-! Text: rows up to what counts -/
def RowF (h : GH) (r a cap n : Nat) (F : Nat → Int) : Prop := ∃ f : Nat → Int, IsRow h r a cap n f ∧ ∀ q, q < n → f q = F q
theorem RowF.kp {h h1 : GH} {r a cap n : Nat} {F : Nat → Int} {P : Nat → Prop} (hr : RowF h r a cap n F) (hk : keeps h h1 P) (p1 : ¬ P r) (p2 : ¬ P a) : RowF h1 r a cap n F := by
  obtain ⟨f, z1, z2⟩ := hr
  exact ⟨f, z1.kp hk p1 p2, z2⟩
theorem RowF.kd {h : GH} {r a cap n : Nat} {F : Nat → Int} (hr : RowF h r a cap n F) : ∃ f : Nat → Int, h r = some (gObj 3 [gR (some a), gI n]) ∧ h a = some (gArr 0 cap f) := by
  obtain ⟨f, ⟨z1, z2, z3⟩, z4⟩ := hr
  exact ⟨f, z1, z2⟩
theorem RowF.le {h : GH} {r a cap n : Nat} {F : Nat → Int} (hr : RowF h r a cap n F) : n ≤ cap := by
  obtain ⟨f, ⟨z1, z2, z3, _⟩, z4⟩ := hr
  exact z3
theorem RowF.to {h : GH} {r a cap n : Nat} {F F1 : Nat → Int} (hr : RowF h r a cap n F) (e : ∀ q, q < n → F q = F1 q) : RowF h r a cap n F1 := by
  obtain ⟨f, z1, z2⟩ := hr
  exact ⟨f, z1, fun q hq => (z2 q hq).trans (e q hq)⟩
def tP (t rc ac rs as_ : Nat) : Nat → Prop := fun q => q = t ∨ q = rc ∨ q = ac ∨ q = rs ∨ q = as_
def IsText (h : GH) (t rc ac rs as_ n : Nat) (F : Nat → Int) (m : Nat) (Z : Nat → Int) (c : Nat) : Prop := h t = some (gObj 5 [gR (some rc), gR (some rs), gI c]) ∧ RowF h rc ac 80 n F ∧ RowF h rs as_ 200 m Z ∧ rc ≠ rs ∧ ac ≠ as_
section
variable {h h1 : GH} {t rc ac rs as_ n m c : Nat} {F Z : Nat → Int}
theorem IsText.nes (ht : IsText h t rc ac rs as_ n F m Z c) : t ≠ rc ∧ t ≠ ac ∧ t ≠ rs ∧ t ≠ as_ ∧ rc ≠ ac ∧ rc ≠ as_ ∧ rs ≠ ac ∧ rs ≠ as_ := by
  obtain ⟨g1, g2, g3, g4, g5⟩ := ht
  obtain ⟨f1, a1, a2⟩ := g2.kd
  obtain ⟨f2, b1, b2⟩ := g3.kd
  refine ⟨?_, ?_, ?_, ?_, ?_, ?_, ?_, ?_⟩ <;> intro e <;> subst e
  · rw [g1] at a1; cases a1
  · rw [g1] at a2; cases a2
  · rw [g1] at b1; cases b1
  · rw [g1] at b2; cases b2
  · rw [a1] at a2; cases a2
  · rw [a1] at b2; cases b2
  · rw [b1] at a2; cases a2
  · rw [b1] at b2; cases b2
theorem IsText.chars {n1 : Nat} {F1 : Nat → Int} (ht : IsText h t rc ac rs as_ n F m Z c) (hk : keeps h h1 (fun q => q = rc ∨ q = ac)) (hr : RowF h1 rc ac 80 n1 F1) : IsText h1 t rc ac rs as_ n1 F1 m Z c ∧ keeps h h1 (tP t rc ac rs as_) := by
  obtain ⟨e1, e2, e3, e4, e5, e6, e7, e8⟩ := ht.nes
  obtain ⟨g1, g2, g3, g4, g5⟩ := ht
  refine ⟨⟨hk _ _ g1 ?_, hr, g3.kp hk ?_ ?_, g4, g5⟩, hk.mono fun q z => ?_⟩
  · rintro (e | e)
    · exact e1 e
    · exact e2 e
  · rintro (e | e)
    · exact g4 e.symm
    · exact e7 e
  · rintro (e | e)
    · exact e6 e.symm
    · exact g5 e.symm
  · rcases z with z | z
    · exact Or.inr (Or.inl z)
    · exact Or.inr (Or.inr (Or.inl z))
theorem IsText.stops {m1 : Nat} {Z1 : Nat → Int} (ht : IsText h t rc ac rs as_ n F m Z c) (hk : keeps h h1 (fun q => q = rs ∨ q = as_)) (hr : RowF h1 rs as_ 200 m1 Z1) : IsText h1 t rc ac rs as_ n F m1 Z1 c ∧ keeps h h1 (tP t rc ac rs as_) := by
  obtain ⟨e1, e2, e3, e4, e5, e6, e7, e8⟩ := ht.nes
  obtain ⟨g1, g2, g3, g4, g5⟩ := ht
  refine ⟨⟨hk _ _ g1 ?_, g2.kp hk ?_ ?_, hr, g4, g5⟩, hk.mono fun q z => ?_⟩
  · rintro (e | e)
    · exact e3 e
    · exact e4 e
  · rintro (e | e)
    · exact g4 e
    · exact e6 e
  · rintro (e | e)
    · exact e7 e.symm
    · exact g5 e
  · rcases z with z | z
    · exact Or.inr (Or.inr (Or.inr (Or.inl z)))
    · exact Or.inr (Or.inr (Or.inr (Or.inr z)))
theorem IsText.care {c1 : Nat} {x : Int} (ht : IsText h t rc ac rs as_ n F m Z c) (hx : x = c1) : IsText (hput h t (gObj 5 [gR (some rc), gR (some rs), gI x])) t rc ac rs as_ n F m Z c1 ∧ keeps h (hput h t (gObj 5 [gR (some rc), gR (some rs), gI x])) (tP t rc ac rs as_) := by
  subst hx
  obtain ⟨e1, e2, e3, e4, e5, e6, e7, e8⟩ := ht.nes
  obtain ⟨g1, g2, g3, g4, g5⟩ := ht
  have hk : keeps h (hput h t (gObj 5 [gR (some rc), gR (some rs), gI c1])) (fun q => q = t) := keeps.put (Or.inl rfl)
  exact ⟨⟨hput_s _ _ _, g2.kp hk (Ne.symm e1) (Ne.symm e2), g3.kp hk (Ne.symm e3) (Ne.symm e4), g4, g5⟩, hk.mono fun q z => Or.inl z⟩
end
/-- stops at c or behind it move by d -/
def shF (Z : Nat → Int) (c : Nat) (d : Int) : Nat → Int := fun q => if (c : Int) ≤ Z q then Z q + d else Z q
def insT (F : Nat → Int) (c : Nat) (v : Int) : Nat → Int := fun q => if q < c then F q else if q = c then v else F (q - 1)
def remT (F : Nat → Int) (c : Nat) : Nat → Int := fun q => if q < c then F q else F (q + 1)
/-- shiftStops(d) -/
theorem tx_shift (D : DD) {h : GH} {t rc ac rs as_ n m c : Nat} {F Z : Nat → Int} (ht : IsText h t rc ac rs as_ n F m Z c) {d : Int} (hZ : ∀ q, q < m → inR (Z q)) (hc : c ≤ 80) : GMet D yX5_shiftStops cX5_shiftStops 3 none [] 3 0 0 [gR (some t), gI d] h (pv (fun h1 => IsText h1 t rc ac rs as_ n F m (shF Z c d) c ∧ keeps h h1 (tP t rc ac rs as_))) := by
  refine GMet.intro RX5 rfl (by decide) (gcats rfl) (Nat.le_of_ble_eq_true rfl) fun K KX S => ?_
  show K 0 [some _, some _, none] [] _ 0 0
  have hm : m ≤ 200 := ht.2.2.1.le
  have loop : ∀ (k j : Nat) (h5 : GH), j + k = m → IsText h5 t rc ac rs as_ n F m (fun q => if q < j then shF Z c d q else Z q) c → keeps h h5 (tP t rc ac rs as_) → K 2 [some (gR (some t)), some (gI d), some (gI (j : Nat))] [] h5 0 0 := by
    intro k
    induction k with
    | zero =>
      intro j h5 hj ht5 hk5
      obtain ⟨g1, -, ⟨f3, g3, g3f⟩, -⟩ := id ht5
      have g3a := g3.1
      refine k_iload_n S dX5_shiftStops_2 rfl ?_
      refine k_aload_n S dX5_shiftStops_3 rfl ?_
      refine k_getf S dX5_shiftStops_4 f_X5_20 (by assumption) (by rfl) ?_
      refine k_callV_r S dX5_shiftStops_7 v_X5_38 (row_count D g3) (by assumption) (fun h7 hp7 => ?_) rfl rfl (by decide) (by omega) (by omega) (Nat.le_of_ble_eq_true rfl)
      rw [hp7]
      refine k_icmp_ge (tgt := 52) S dX5_shiftStops_10 (by decide) (by omega) (by omega) (fun c10 => ?_) (fun c10 => ?_)
      · have e1 : j = m := by omega
        subst e1
        refine k_return S dX5_shiftStops_52 ?_ (by omega) (by omega)
        obtain ⟨u1, u2, u3, u4⟩ := ht5
        exact ⟨rfl, ⟨u1, u2, u3.to (fun q hq => if_pos hq), u4⟩, hk5⟩
      · omega
    | succ k ih =>
      intro j h5 hj ht5 hk5
      obtain ⟨g1, -, ⟨f3, g3, g3f⟩, -⟩ := id ht5
      have g3a := g3.1
      have hjm : j < m := by omega
      have ev : (if 0 ≤ ((j : Nat) : Int) ∧ ((j : Nat) : Int) < ((m : Nat) : Int) then f3 ((j : Nat) : Int).toNat else 0) = Z j := by
        rw [if_pos (by omega), show ((j : Nat) : Int).toNat = j by omega, g3f j hjm]
        exact if_neg (by omega)
      have hr1 := hZ j hjm
      refine k_iload_n S dX5_shiftStops_2 rfl ?_
      refine k_aload_n S dX5_shiftStops_3 rfl ?_
      refine k_getf S dX5_shiftStops_4 f_X5_20 (by assumption) (by rfl) ?_
      refine k_callV_r S dX5_shiftStops_7 v_X5_38 (row_count D g3) (by assumption) (fun h7 hp7 => ?_) rfl rfl (by decide) (by omega) (by omega) (Nat.le_of_ble_eq_true rfl)
      rw [hp7]
      refine k_icmp_ge (tgt := 52) S dX5_shiftStops_10 (by decide) (by omega) (by omega) (fun c10 => ?_) (fun c10 => ?_)
      · omega
      · refine k_aload_n S dX5_shiftStops_13 rfl ?_
        refine k_getf S dX5_shiftStops_14 f_X5_20 (by assumption) (by rfl) ?_
        refine k_iload_n S dX5_shiftStops_17 rfl ?_
        refine k_callV_r S dX5_shiftStops_18 v_X5_42 (row_at D g3 (by omega)) (by assumption) (fun h18 hp18 => ?_) rfl rfl (by decide) (by omega) (by omega) (Nat.le_of_ble_eq_true rfl)
        rw [hp18, ev]
        refine k_aload_n S dX5_shiftStops_21 rfl ?_
        refine k_getf S dX5_shiftStops_22 f_X5_23 (by assumption) (by rfl) ?_
        refine k_icmp_lt (tgt := 46) S dX5_shiftStops_25 (by decide) (by omega) (by omega) (fun c25 => ?_) (fun c25 => ?_)
        · refine k_iinc S dX5_shiftStops_46 rfl (by decide) ?_
          refine k_goto (tgt := 2) S dX5_shiftStops_49 (by decide) ?_
          refine ih (j + 1) h5 (by omega) ?_ hk5
          obtain ⟨u1, u2, u3, u4⟩ := ht5
          refine ⟨u1, u2, u3.to (fun q hq => ?_), u4⟩
          by_cases e : q = j
          · subst e
            rw [if_neg (by omega), if_pos (by omega), shF, if_neg (by omega)]
          · by_cases e2 : q < j
            · rw [if_pos e2, if_pos (by omega)]
            · rw [if_neg e2, if_neg (by omega)]
        · refine k_aload_n S dX5_shiftStops_28 rfl ?_
          refine k_getf S dX5_shiftStops_29 f_X5_20 (by assumption) (by rfl) ?_
          refine k_iload_n S dX5_shiftStops_32 rfl ?_
          refine k_aload_n S dX5_shiftStops_33 rfl ?_
          refine k_getf S dX5_shiftStops_34 f_X5_20 (by assumption) (by rfl) ?_
          refine k_iload_n S dX5_shiftStops_37 rfl ?_
          refine k_callV_r S dX5_shiftStops_38 v_X5_42 (row_at D g3 (by omega)) (by assumption) (fun h38 hp38 => ?_) rfl rfl (by decide) (by omega) (by omega) (Nat.le_of_ble_eq_true rfl)
          rw [hp38, ev]
          refine k_iload_n S dX5_shiftStops_41 rfl ?_
          refine k_iadd S dX5_shiftStops_42 ?_
          refine k_callV_v S dX5_shiftStops_43 v_X5_45 (row_set D g3 (by omega)) (by assumption) (fun h43 hp43 => ?_) rfl rfl (by decide) (by omega) (by omega) (Nat.le_of_ble_eq_true rfl)
          rw [if_pos (by omega)] at hp43
          obtain ⟨v1, v2⟩ := ht5.stops (m1 := m) (Z1 := fun q => if q < j + 1 then shF Z c d q else Z q) hp43.2.keeps ⟨_, hp43.1, fun q hq => by
            have e3 : ((j : Nat) : Int).toNat = j := by omega
            rw [e3]
            by_cases e : q = j
            · subst e
              rw [gupd_s]
              dsimp only
              rw [if_pos (by omega), shF, if_pos (by omega)]
            · rw [gupd_n _ _ e, g3f q hq]
              dsimp only
              by_cases e2 : q < j
              · rw [if_pos e2, if_pos (by omega)]
              · rw [if_neg e2, if_neg (by omega)]⟩
          refine k_iinc S dX5_shiftStops_46 rfl (by decide) ?_
          refine k_goto (tgt := 2) S dX5_shiftStops_49 (by decide) ?_
          exact ih (j + 1) _ (by omega) v1 (hk5.tr v2)
  refine k_iconst S dX5_shiftStops_0 ?_
  refine k_istore_n S dX5_shiftStops_1 (by decide) ?_
  refine loop m 0 h (by omega) ?_ keeps.rf
  obtain ⟨u1, u2, u3, u4⟩ := ht
  exact ⟨u1, u2, u3.to (fun q hq => (if_neg (by omega)).symm), u4⟩
/-- type(v) -/
theorem tx_type (D : DD) {h : GH} {t rc ac rs as_ n m c : Nat} {F Z : Nat → Int} (ht : IsText h t rc ac rs as_ n F m Z c) {v : Int} (hZ : ∀ q, q < m → inR (Z q)) (hc : c ≤ n) (hn : n < 80) : GMet D yX5_type cX5_type 2 none [] 4 0 0 [gR (some t), gI v] h (pv (fun h1 => IsText h1 t rc ac rs as_ (n + 1) (insT F c v) m (shF Z c 1) (c + 1) ∧ keeps h h1 (tP t rc ac rs as_))) := by
  obtain ⟨g1, ⟨f2, g2, g2f⟩, ⟨f3, g3, g3f⟩, g4, g5⟩ := id ht
  have g2a := g2.1
  have g3a := g3.1
  have g2b := g2.2.2.1
  have g3b := g3.2.2.1
  refine GMet.intro RX5 rfl (by decide) (gcats rfl) (Nat.le_of_ble_eq_true rfl) fun K KX S => ?_
  show K 0 [some _, some _] [] _ 0 0
  refine k_aload_n S dX5_type_0 rfl ?_
  refine k_getf S dX5_type_1 f_X5_14 (by assumption) (by rfl) ?_
  refine k_aload_n S dX5_type_4 rfl ?_
  refine k_getf S dX5_type_5 f_X5_23 (by assumption) (by rfl) ?_
  refine k_iload_n S dX5_type_8 rfl ?_
  refine k_callV_v S dX5_type_9 v_X5_27 (row_insert D g2 (by omega)) (by assumption) (fun h9 hp9 => ?_) rfl rfl (by decide) (by omega) (by omega) (Nat.le_of_ble_eq_true rfl)
  rw [if_pos (by omega), if_pos (by omega)] at hp9
  obtain ⟨v1, v2⟩ := ht.chars (n1 := n + 1) (F1 := insT F c v) hp9.2.keeps ⟨_, hp9.1, fun q hq => by
    have e3 : ((c : Nat) : Int).toNat = c := by omega
    rw [e3, insF, insT]
    by_cases e : q = c
    · subst e
      rw [gupd_s, if_neg (by omega), if_pos rfl]
    · rw [gupd_n _ _ e]
      by_cases e2 : q < c
      · rw [if_pos e2, if_neg (by omega), g2f q (by omega)]
      · rw [if_neg e2, if_neg e, if_pos (by omega), g2f (q - 1) (by omega)]⟩
  have v1a := v1.1
  refine k_aload_n S dX5_type_12 rfl ?_
  refine k_iconst S dX5_type_13 ?_
  refine k_callV_v S dX5_type_14 v_X5_31 (tx_shift D v1 hZ (by omega)) (by assumption) (fun h14 hp14 => ?_) rfl rfl (by decide) (by omega) (by omega) (Nat.le_of_ble_eq_true rfl)
  obtain ⟨w1, w2⟩ := hp14
  have w1a := w1.1
  refine k_aload_n S dX5_type_17 rfl ?_
  refine k_dup S dX5_type_18 ?_
  refine k_getf S dX5_type_19 f_X5_23 (by assumption) (by rfl) ?_
  refine k_iconst S dX5_type_22 ?_
  refine k_iadd S dX5_type_23 ?_
  refine k_putf S dX5_type_24 f_X5_23 (by assumption) (gfit_int _) (Nat.le_of_ble_eq_true rfl) ?_
  refine k_return S dX5_type_27 ?_ (by omega) (by omega)
  obtain ⟨x1, x2⟩ := w1.care (c1 := c + 1) (x := (c : Int) + 1) (by omega)
  exact ⟨rfl, x1, keeps.tr v2 (keeps.tr w2 x2)⟩
/-- takeOut() -/
theorem tx_takeOut (D : DD) {h : GH} {t rc ac rs as_ n m c : Nat} {F Z : Nat → Int} (ht : IsText h t rc ac rs as_ n F m Z c) (hZ : ∀ q, q < m → inR (Z q)) (hc : 1 ≤ c ∧ c ≤ n) : GMet D yX5_takeOut cX5_takeOut 1 (some .int) [] 4 0 0 [gR (some t)] h (pr (gI (F (c - 1))) (fun h1 => IsText h1 t rc ac rs as_ (n - 1) (remT F (c - 1)) m (shF Z c (-1)) (c - 1) ∧ keeps h h1 (tP t rc ac rs as_))) := by
  obtain ⟨g1, ⟨f2, g2, g2f⟩, ⟨f3, g3, g3f⟩, g4, g5⟩ := id ht
  have g2a := g2.1
  have g3a := g3.1
  have g2b := g2.2.2.1
  have g3b := g3.2.2.1
  refine GMet.intro RX5 rfl (by decide) (gcats rfl) (Nat.le_of_ble_eq_true rfl) fun K KX S => ?_
  show K 0 [some _] [] _ 0 0
  refine k_aload_n S dX5_takeOut_0 rfl ?_
  refine k_iconst S dX5_takeOut_1 ?_
  refine k_callV_v S dX5_takeOut_2 v_X5_31 (tx_shift D ht hZ (by omega)) (by assumption) (fun h2 hp2 => ?_) rfl rfl (by decide) (by omega) (by omega) (Nat.le_of_ble_eq_true rfl)
  obtain ⟨w1, w2⟩ := hp2
  have w1a := w1.1
  refine k_aload_n S dX5_takeOut_5 rfl ?_
  refine k_dup S dX5_takeOut_6 ?_
  refine k_getf S dX5_takeOut_7 f_X5_23 (by assumption) (by rfl) ?_
  refine k_iconst S dX5_takeOut_10 ?_
  refine k_isub S dX5_takeOut_11 ?_
  refine k_putf S dX5_takeOut_12 f_X5_23 (by assumption) (gfit_int _) (Nat.le_of_ble_eq_true rfl) ?_
  obtain ⟨x1, x2⟩ := w1.care (c1 := c - 1) (x := (c : Int) - 1) (by omega)
  obtain ⟨y1, ⟨f4, y2, y2f⟩, -⟩ := id x1
  have y2a := y2.1
  have ec : ((c : Int) - 1) = ((c - 1 : Nat) : Int) := by omega
  refine k_aload_n S dX5_takeOut_15 rfl ?_
  refine k_getf S dX5_takeOut_16 f_X5_14 (hput_s _ _ _) (by rfl) ?_
  refine k_aload_n S dX5_takeOut_19 rfl ?_
  refine k_getf S dX5_takeOut_20 f_X5_23 (hput_s _ _ _) (by rfl) ?_
  refine k_callV_r S dX5_takeOut_23 v_X5_34 (row_removeAt D y2 (by omega)) (by assumption) (fun h23 hp23 => ?_) rfl rfl (by decide) (by omega) (by omega) (Nat.le_of_ble_eq_true rfl)
  rw [if_pos (by omega), if_pos (by omega)] at hp23
  rw [if_pos (by omega), show ((c : Nat) - 1 : Int).toNat = c - 1 by omega, y2f (c - 1) (by omega)]
  refine k_ireturn S dX5_takeOut_26 ?_ (by omega) (by omega)
  obtain ⟨z1, z2⟩ := x1.chars (n1 := n - 1) (F1 := remT F (c - 1)) hp23.2.keeps ⟨_, hp23.1, fun q hq => by
    have e3 : ((c : Nat) - 1 : Int).toNat = c - 1 := by omega
    rw [e3, remF, remT]
    by_cases e2 : q < c - 1
    · rw [if_pos e2, if_neg (by omega), y2f q (by omega)]
    · rw [if_neg e2, if_pos (by omega), y2f (q + 1) (by omega)]⟩
  exact ⟨rfl, z1, keeps.tr w2 (keeps.tr x2 z2)⟩
theorem IsGift.off {h h5 : GH} {t rc ac rs as_ n m c : Nat} {F Z : Nat → Int} {g grc gac grs gas : Nat} {cl sl : List Int} (hg : IsGift h g grc gac grs gas cl sl) (ht : IsText h t rc ac rs as_ n F m Z c) (hd : (grc ≠ rc ∧ grc ≠ rs ∧ grs ≠ rc ∧ grs ≠ rs) ∧ (gac ≠ ac ∧ gac ≠ as_ ∧ gas ≠ ac ∧ gas ≠ as_)) (hk : keeps h h5 (tP t rc ac rs as_)) : IsGift h5 g grc gac grs gas cl sl := by
  obtain ⟨g1, g2, g3, g4, g5⟩ := hg
  obtain ⟨t1, t2, t3, t4, t5⟩ := ht
  obtain ⟨n1, f1, a1, a2⟩ := g2.kd
  obtain ⟨n2, f2, b1, b2⟩ := g3.kd
  obtain ⟨f3, c1, c2⟩ := t2.kd
  obtain ⟨f4, d1, d2⟩ := t3.kd
  have kn : ∀ {x y : Nat} {u v : gE}, h x = some u → h y = some v → u ≠ v → x ≠ y := fun h1 h2 hne => frm_ne h1 h2 hne
  refine ⟨hk _ _ g1 ?_, g2.kp hk ?_ ?_, g3.kp hk ?_ ?_, g4, g5⟩
  · rintro (e | e | e | e | e)
    · exact kn g1 t1 (fun z => by cases z) e
    · exact kn g1 c1 (fun z => by cases z) e
    · exact kn g1 c2 (fun z => by cases z) e
    · exact kn g1 d1 (fun z => by cases z) e
    · exact kn g1 d2 (fun z => by cases z) e
  · rintro (e | e | e | e | e)
    · exact kn a1 t1 (fun z => by cases z) e
    · exact hd.1.1 e
    · exact kn a1 c2 (fun z => by cases z) e
    · exact hd.1.2.1 e
    · exact kn a1 d2 (fun z => by cases z) e
  · rintro (e | e | e | e | e)
    · exact kn a2 t1 (fun z => by cases z) e
    · exact kn a2 c1 (fun z => by cases z) e
    · exact hd.2.1 e
    · exact kn a2 d1 (fun z => by cases z) e
    · exact hd.2.2.1 e
  · rintro (e | e | e | e | e)
    · exact kn b1 t1 (fun z => by cases z) e
    · exact hd.1.2.2.1 e
    · exact kn b1 c2 (fun z => by cases z) e
    · exact hd.1.2.2.2 e
    · exact kn b1 d2 (fun z => by cases z) e
  · rintro (e | e | e | e | e)
    · exact kn b2 t1 (fun z => by cases z) e
    · exact kn b2 c1 (fun z => by cases z) e
    · exact hd.2.2.2.1 e
    · exact kn b2 d1 (fun z => by cases z) e
    · exact hd.2.2.2.2 e
/-- the text with u places ahead of c taken out, and the first i of cl in their place -/
def splT (F : Nat → Int) (k u : Nat) (cl : List Int) (i : Nat) : Nat → Int := fun q => if q < k then F q else if q < k + i then cl.getD (q - k) 0 else F (q - i + u)
/-- replace(u, gift) -/
theorem tx_replace (D : DD) {h : GH} {t rc ac rs as_ n m c : Nat} {F Z : Nat → Int} (ht : IsText h t rc ac rs as_ n F m Z c) {g grc gac grs gas : Nat} {cl sl : List Int} (hg : IsGift h g grc gac grs gas cl sl) (hd : (grc ≠ rc ∧ grc ≠ rs ∧ grs ≠ rc ∧ grs ≠ rs) ∧ (gac ≠ ac ∧ gac ≠ as_ ∧ gas ≠ ac ∧ gas ≠ as_)) {u : Nat} (hu : u ≤ c ∧ c ≤ n) (hroom : n - u + cl.length ≤ 80) (hsl : ∀ x ∈ sl, 0 ≤ x ∧ x ≤ 200) : GMet D yX5_replace cX5_replace 4 none [] 4 0 0 [gR (some t), gI u, gR (some g)] h (pv (fun h1 => IsText h1 t rc ac rs as_ (n - u + cl.length) (splT F (c - u) u cl cl.length) (sl.length - 1) (fun q => ((c - u : Nat) : Int) + sl.getD (q + 1) 0) (match sl with | [] => c - u + cl.length | s0 :: _ => c - u + s0.toNat) ∧ keeps h h1 (tP t rc ac rs as_))) := by
  obtain ⟨g1, ⟨f2, g2, g2f⟩, ⟨f3, g3, g3f⟩, g4, g5⟩ := id ht
  have g2a := g2.1
  have g3a := g3.1
  have g2b := g2.2.2.1
  have g3b := g3.2.2.1
  refine GMet.intro RX5 rfl (by decide) (gcats rfl) (Nat.le_of_ble_eq_true rfl) fun K KX S => ?_
  show K 0 [some _, some _, some _, none] [] _ 0 0
  have hn80 : n ≤ 80 := g2b
  have hlc : cl.length ≤ 200 := hg.2.1.len
  have hls : sl.length ≤ 200 := hg.2.2.1.len
  -- the end: the caret
  have fin : ∀ (h5 : GH), IsText h5 t rc ac rs as_ (n - u + cl.length) (splT F (c - u) u cl cl.length) (sl.length - 1) (fun q => ((c - u : Nat) : Int) + sl.getD (q + 1) 0) (c - u) → keeps h h5 (tP t rc ac rs as_) → K 121 [some (gR (some t)), some (gI (u : Nat)), some (gR (some g)), some (gI (sl.length : Nat))] [] h5 0 0 ∧ K 121 [some (gR (some t)), some (gI (u : Nat)), some (gR (some g)), some (gI (1 : Nat))] [] h5 0 0 := by
    intro h5 ht5 hk5
    obtain ⟨e1, -, -, -⟩ := id ht5
    have hg5 := hg.off ht hd hk5
    obtain ⟨e2, ⟨f4, e3, e3f⟩, ⟨f5, e4, e4f⟩, -⟩ := id hg5
    have e3a := e3.1
    have e4a := e4.1
    have body : ∀ v : Option GV, K 121 [some (gR (some t)), some (gI (u : Nat)), some (gR (some g)), v] [] h5 0 0 := by
      intro v
      refine k_aload_n S dX5_replace_121 rfl ?_
      refine k_dup S dX5_replace_122 ?_
      refine k_getf S dX5_replace_123 f_X5_23 (by assumption) (by rfl) ?_
      refine k_aload_n S dX5_replace_126 rfl ?_
      refine k_getf S dX5_replace_127 f_X5_54 (by assumption) (by rfl) ?_
      refine k_iconst S dX5_replace_130 ?_
      refine k_callV_r S dX5_replace_131 v_X5_58 (row_has D e4 (by omega)) (by assumption) (fun h131 hp131 => ?_) rfl rfl (by decide) (by omega) (by omega) (Nat.le_of_ble_eq_true rfl)
      rw [hp131]
      refine k_if_eq (tgt := 148) S dX5_replace_134 (by decide) (b01_r _) (fun c134 => ?_) (fun c134 => ?_)
      · have z := b01_0.mp c134
        have hs0 : sl = [] := by
          cases hsl9 : sl with
          | nil => rfl
          | cons x y => rw [hsl9] at z; exact absurd ⟨by omega, by simp only [List.length_cons]; omega⟩ z
        refine k_aload_n S dX5_replace_148 rfl ?_
        refine k_getf S dX5_replace_149 f_X5_48 (by assumption) (by rfl) ?_
        refine k_callV_r S dX5_replace_152 v_X5_38 (row_count D e3) (by assumption) (fun h152 hp152 => ?_) rfl rfl (by decide) (by omega) (by omega) (Nat.le_of_ble_eq_true rfl)
        rw [hp152]
        refine k_iadd S dX5_replace_155 ?_
        refine k_putf S dX5_replace_156 f_X5_23 (by assumption) (gfit_int _) (Nat.le_of_ble_eq_true rfl) ?_
        refine k_return S dX5_replace_159 ?_ (by omega) (by omega)
        obtain ⟨x1, x2⟩ := ht5.care (c1 := c - u + cl.length) (x := ((c - u : Nat) : Int) + (cl.length : Nat)) (by omega)
        subst hs0
        exact ⟨rfl, x1, hk5.tr x2⟩
      · have z := b01_n.mp c134
        obtain ⟨s0, s1, hs0⟩ : ∃ s0 s1, sl = s0 :: s1 := by
          cases hsl9 : sl with
          | nil => rw [hsl9] at z; simp at z
          | cons x y => exact ⟨x, y, rfl⟩
        have h9 := hsl s0 (by rw [hs0]; exact List.mem_cons_self)
        have ev : (if 0 ≤ (0 : Int) ∧ (0 : Int) < ((sl.length : Nat) : Int) then f5 (0 : Int).toNat else 0) = s0 := by
          rw [if_pos z, show (0 : Int).toNat = 0 from rfl, e4f 0 (by omega), hs0]
          rfl
        refine k_aload_n S dX5_replace_137 rfl ?_
        refine k_getf S dX5_replace_138 f_X5_54 (by assumption) (by rfl) ?_
        refine k_iconst S dX5_replace_141 ?_
        refine k_callV_r S dX5_replace_142 v_X5_42 (row_at D e4 (by omega)) (by assumption) (fun h142 hp142 => ?_) rfl rfl (by decide) (by omega) (by omega) (Nat.le_of_ble_eq_true rfl)
        rw [hp142, ev]
        refine k_goto (tgt := 155) S dX5_replace_145 (by decide) ?_
        refine k_iadd S dX5_replace_155 ?_
        refine k_putf S dX5_replace_156 f_X5_23 (by assumption) (gfit_int _) (Nat.le_of_ble_eq_true rfl) ?_
        refine k_return S dX5_replace_159 ?_ (by omega) (by omega)
        obtain ⟨x1, x2⟩ := ht5.care (c1 := c - u + s0.toNat) (x := ((c - u : Nat) : Int) + s0) (by omega)
        subst hs0
        exact ⟨rfl, x1, hk5.tr x2⟩
    exact ⟨body _, body _⟩
  -- the stops
  have loop3 : ∀ (d j : Nat) (h5 : GH), (j + d = sl.length) → 1 ≤ j → IsText h5 t rc ac rs as_ (n - u + cl.length) (splT F (c - u) u cl cl.length) (j - 1) (fun q => ((c - u : Nat) : Int) + sl.getD (q + 1) 0) (c - u) → keeps h h5 (tP t rc ac rs as_) → K 84 [some (gR (some t)), some (gI (u : Nat)), some (gR (some g)), some (gI (j : Nat))] [] h5 0 0 := by
    intro d
    induction d with
    | zero =>
      intro j h5 hj h1j ht5 hk5
      obtain ⟨e1, -, -, -⟩ := id ht5
      have hg5 := hg.off ht hd hk5
      obtain ⟨e2, ⟨f4, e3, e3f⟩, ⟨f5, e4, e4f⟩, -⟩ := id hg5
      have e4a := e4.1
      refine k_iload_n S dX5_replace_84 rfl ?_
      refine k_aload_n S dX5_replace_85 rfl ?_
      refine k_getf S dX5_replace_86 f_X5_54 (by assumption) (by rfl) ?_
      refine k_callV_r S dX5_replace_89 v_X5_38 (row_count D e4) (by assumption) (fun h89 hp89 => ?_) rfl rfl (by decide) (by omega) (by omega) (Nat.le_of_ble_eq_true rfl)
      rw [hp89]
      refine k_icmp_ge (tgt := 121) S dX5_replace_92 (by decide) (by omega) (by omega) (fun c92 => ?_) (fun c92 => ?_)
      · have ej : j = sl.length := by omega
        subst ej
        exact (fin h5 ht5 hk5).1
      · omega
    | succ d ih =>
      intro j h5 hj h1j ht5 hk5
      obtain ⟨e1, -, ⟨f6, e5, e5f⟩, -⟩ := id ht5
      have e5a := e5.1
      have hg5 := hg.off ht hd hk5
      obtain ⟨e2, ⟨f4, e3, e3f⟩, ⟨f5, e4, e4f⟩, -⟩ := id hg5
      have e4a := e4.1
      have ev : (if 0 ≤ ((j : Nat) : Int) ∧ ((j : Nat) : Int) < ((sl.length : Nat) : Int) then f5 ((j : Nat) : Int).toNat else 0) = sl.getD j 0 := by
        rw [if_pos (by omega), show ((j : Nat) : Int).toNat = j by omega, e4f j (by omega)]
      refine k_iload_n S dX5_replace_84 rfl ?_
      refine k_aload_n S dX5_replace_85 rfl ?_
      refine k_getf S dX5_replace_86 f_X5_54 (by assumption) (by rfl) ?_
      refine k_callV_r S dX5_replace_89 v_X5_38 (row_count D e4) (by assumption) (fun h89 hp89 => ?_) rfl rfl (by decide) (by omega) (by omega) (Nat.le_of_ble_eq_true rfl)
      rw [hp89]
      refine k_icmp_ge (tgt := 121) S dX5_replace_92 (by decide) (by omega) (by omega) (fun c92 => ?_) (fun c92 => ?_)
      · omega
      · refine k_aload_n S dX5_replace_95 rfl ?_
        refine k_getf S dX5_replace_96 f_X5_20 (by assumption) (by rfl) ?_
        refine k_aload_n S dX5_replace_99 rfl ?_
        refine k_getf S dX5_replace_100 f_X5_23 (by assumption) (by rfl) ?_
        refine k_aload_n S dX5_replace_103 rfl ?_
        refine k_getf S dX5_replace_104 f_X5_54 (by assumption) (by rfl) ?_
        refine k_iload_n S dX5_replace_107 rfl ?_
        refine k_callV_r S dX5_replace_108 v_X5_42 (row_at D e4 (by omega)) (by assumption) (fun h108 hp108 => ?_) rfl rfl (by decide) (by omega) (by omega) (Nat.le_of_ble_eq_true rfl)
        rw [hp108, ev]
        refine k_iadd S dX5_replace_111 ?_
        refine k_callV_v S dX5_replace_112 v_X5_55 (row_add D e5) (by assumption) (fun h112 hp112 => ?_) rfl rfl (by decide) (by omega) (by omega) (Nat.le_of_ble_eq_true rfl)
        rw [if_pos (by omega), if_pos (by omega)] at hp112
        obtain ⟨v1, v2⟩ := ht5.stops (m1 := j) (Z1 := fun q => ((c - u : Nat) : Int) + sl.getD (q + 1) 0) hp112.2.keeps ⟨_, by have := hp112.1; rw [show j - 1 + 1 = j by omega] at this; exact this, fun q hq => by
          by_cases e : q = j - 1
          · subst e
            rw [gupd_s]; dsimp only; rw [show j - 1 + 1 = j by omega]
          · rw [gupd_n _ _ e, e5f q (by omega)]⟩
        refine k_iinc S dX5_replace_115 rfl (by decide) ?_
        refine k_goto (tgt := 84) S dX5_replace_118 (by decide) ?_
        exact ih (j + 1) _ (by omega) (by omega) v1 (hk5.tr v2)
  -- the characters
  have loop2 : ∀ (d j : Nat) (h5 : GH), j + d = cl.length → IsText h5 t rc ac rs as_ (n - u + j) (splT F (c - u) u cl j) m Z (c - u) → keeps h h5 (tP t rc ac rs as_) → K 37 [some (gR (some t)), some (gI (u : Nat)), some (gR (some g)), some (gI (j : Nat))] [] h5 0 0 := by
    intro d
    induction d with
    | zero =>
      intro j h5 hj ht5 hk5
      obtain ⟨e1, -, ⟨f6, e5, e5f⟩, -⟩ := id ht5
      have e5a := e5.1
      have hg5 := hg.off ht hd hk5
      obtain ⟨e2, ⟨f4, e3, e3f⟩, -⟩ := id hg5
      have e3a := e3.1
      have ej : j = cl.length := by omega
      subst ej
      refine k_iload_n S dX5_replace_37 rfl ?_
      refine k_aload_n S dX5_replace_38 rfl ?_
      refine k_getf S dX5_replace_39 f_X5_48 (by assumption) (by rfl) ?_
      refine k_callV_r S dX5_replace_42 v_X5_38 (row_count D e3) (by assumption) (fun h42 hp42 => ?_) rfl rfl (by decide) (by omega) (by omega) (Nat.le_of_ble_eq_true rfl)
      rw [hp42]
      refine k_icmp_ge (tgt := 75) S dX5_replace_45 (by decide) (by omega) (by omega) (fun c45 => ?_) (fun c45 => ?_)
      · refine k_aload_n S dX5_replace_75 rfl ?_
        refine k_getf S dX5_replace_76 f_X5_20 (by assumption) (by rfl) ?_
        refine k_callV_v S dX5_replace_79 v_X5_51 (row_empty D e5) (by assumption) (fun h79 hp79 => ?_) rfl rfl (by decide) (by omega) (by omega) (Nat.le_of_ble_eq_true rfl)
        obtain ⟨v1, v2⟩ := ht5.stops (m1 := 0) (Z1 := fun q => ((c - u : Nat) : Int) + sl.getD (q + 1) 0) hp79.2.keeps ⟨_, hp79.1, fun q hq => absurd hq (by omega)⟩
        refine k_iconst S dX5_replace_82 ?_
        refine k_istore_n S dX5_replace_83 (by decide) ?_
        by_cases z : sl.length = 0
        · have hk6 := hk5.tr v2
          have hg6 := hg.off ht hd hk6
          obtain ⟨y2, -, ⟨f5, y4, y4f⟩, -⟩ := id hg6
          have y4a := y4.1
          refine k_iload_n S dX5_replace_84 rfl ?_
          refine k_aload_n S dX5_replace_85 rfl ?_
          refine k_getf S dX5_replace_86 f_X5_54 (by assumption) (by rfl) ?_
          refine k_callV_r S dX5_replace_89 v_X5_38 (row_count D y4) (by assumption) (fun h89 hp89 => ?_) rfl rfl (by decide) (by omega) (by omega) (Nat.le_of_ble_eq_true rfl)
          rw [hp89]
          refine k_icmp_ge (tgt := 121) S dX5_replace_92 (by decide) (by omega) (by omega) (fun c92 => ?_) (fun c92 => ?_)
          · have v3 : IsText h79 t rc ac rs as_ (n - u + cl.length) (splT F (c - u) u cl cl.length) (sl.length - 1) (fun q => ((c - u : Nat) : Int) + sl.getD (q + 1) 0) (c - u) := by rw [z]; exact v1
            exact (fin _ v3 hk6).2
          · omega
        · exact loop3 (sl.length - 1) 1 _ (by omega) (by omega) v1 (hk5.tr v2)
      · omega
    | succ d ih =>
      intro j h5 hj ht5 hk5
      obtain ⟨e1, ⟨f6, e5, e5f⟩, -⟩ := id ht5
      have e5a := e5.1
      have hg5 := hg.off ht hd hk5
      obtain ⟨e2, ⟨f4, e3, e3f⟩, -⟩ := id hg5
      have e3a := e3.1
      have ev : (if 0 ≤ ((j : Nat) : Int) ∧ ((j : Nat) : Int) < ((cl.length : Nat) : Int) then f4 ((j : Nat) : Int).toNat else 0) = cl.getD j 0 := by
        rw [if_pos (by omega), show ((j : Nat) : Int).toNat = j by omega, e3f j (by omega)]
      refine k_iload_n S dX5_replace_37 rfl ?_
      refine k_aload_n S dX5_replace_38 rfl ?_
      refine k_getf S dX5_replace_39 f_X5_48 (by assumption) (by rfl) ?_
      refine k_callV_r S dX5_replace_42 v_X5_38 (row_count D e3) (by assumption) (fun h42 hp42 => ?_) rfl rfl (by decide) (by omega) (by omega) (Nat.le_of_ble_eq_true rfl)
      rw [hp42]
      refine k_icmp_ge (tgt := 75) S dX5_replace_45 (by decide) (by omega) (by omega) (fun c45 => ?_) (fun c45 => ?_)
      · omega
      · refine k_aload_n S dX5_replace_48 rfl ?_
        refine k_getf S dX5_replace_49 f_X5_14 (by assumption) (by rfl) ?_
        refine k_aload_n S dX5_replace_52 rfl ?_
        refine k_getf S dX5_replace_53 f_X5_23 (by assumption) (by rfl) ?_
        refine k_iload_n S dX5_replace_56 rfl ?_
        refine k_iadd S dX5_replace_57 ?_
        refine k_aload_n S dX5_replace_58 rfl ?_
        refine k_getf S dX5_replace_59 f_X5_48 (by assumption) (by rfl) ?_
        refine k_iload_n S dX5_replace_62 rfl ?_
        refine k_callV_r S dX5_replace_63 v_X5_42 (row_at D e3 (by omega)) (by assumption) (fun h63 hp63 => ?_) rfl rfl (by decide) (by omega) (by omega) (Nat.le_of_ble_eq_true rfl)
        rw [hp63, ev]
        refine k_callV_v S dX5_replace_66 v_X5_27 (row_insert D e5 (by omega)) (by assumption) (fun h66 hp66 => ?_) rfl rfl (by decide) (by omega) (by omega) (Nat.le_of_ble_eq_true rfl)
        rw [if_pos (by omega), if_pos (by omega)] at hp66
        obtain ⟨v1, v2⟩ := ht5.chars (n1 := n - u + (j + 1)) (F1 := splT F (c - u) u cl (j + 1)) hp66.2.keeps ⟨_, hp66.1, fun q hq => by
          have e9 : (((c - u : Nat) : Int) + ((j : Nat) : Int)).toNat = c - u + j := by omega
          rw [e9, insF]
          by_cases e : q = c - u + j
          · subst e
            rw [gupd_s, splT, if_neg (by omega), if_pos (by omega), show c - u + j - (c - u) = j by omega]
          · rw [gupd_n _ _ e]
            by_cases e2 : q < c - u + j
            · rw [if_neg (by omega), e5f q (by omega), splT, splT]
              by_cases e3 : q < c - u
              · rw [if_pos e3, if_pos e3]
              · rw [if_neg e3, if_neg e3, if_pos e2, if_pos (by omega)]
            · rw [if_pos (by omega), e5f (q - 1) (by omega), splT, splT, if_neg (by omega), if_neg (by omega), if_neg (by omega), if_neg (by omega), show q - 1 - j + u = q - (j + 1) + u by omega]⟩
        refine k_iinc S dX5_replace_69 rfl (by decide) ?_
        refine k_goto (tgt := 37) S dX5_replace_72 (by decide) ?_
        exact ih (j + 1) _ (by omega) v1 (hk5.tr v2)
  -- the trigger
  have loop1 : ∀ (d j : Nat) (h5 : GH), j + d = u → IsText h5 t rc ac rs as_ (n - j) (fun q => if q < c - j then F q else F (q + j)) m Z (c - j) → keeps h h5 (tP t rc ac rs as_) → K 2 [some (gR (some t)), some (gI (u : Nat)), some (gR (some g)), some (gI (j : Nat))] [] h5 0 0 := by
    intro d
    induction d with
    | zero =>
      intro j h5 hj ht5 hk5
      have ej : j = u := by omega
      subst ej
      refine k_iload_n S dX5_replace_2 rfl ?_
      refine k_iload_n S dX5_replace_3 rfl ?_
      refine k_icmp_ge (tgt := 35) S dX5_replace_4 (by decide) (by omega) (by omega) (fun c4 => ?_) (fun c4 => ?_)
      · refine k_iconst S dX5_replace_35 ?_
        refine k_istore_n S dX5_replace_36 (by decide) ?_
        refine loop2 cl.length 0 h5 (by omega) ?_ hk5
        obtain ⟨u1, u2, u3⟩ := ht5
        refine ⟨u1, u2.to (fun q hq => ?_), u3⟩
        rw [splT]
        by_cases e : q < c - j
        · rw [if_pos e, if_pos e]
        · rw [if_neg e, if_neg e, if_neg (by omega), Nat.sub_zero]
      · omega
    | succ d ih =>
      intro j h5 hj ht5 hk5
      obtain ⟨e1, ⟨f6, e5, e5f⟩, -⟩ := id ht5
      refine k_iload_n S dX5_replace_2 rfl ?_
      refine k_iload_n S dX5_replace_3 rfl ?_
      refine k_icmp_ge (tgt := 35) S dX5_replace_4 (by decide) (by omega) (by omega) (fun c4 => ?_) (fun c4 => ?_)
      · omega
      · refine k_aload_n S dX5_replace_7 rfl ?_
        refine k_dup S dX5_replace_8 ?_
        refine k_getf S dX5_replace_9 f_X5_23 (by assumption) (by rfl) ?_
        refine k_iconst S dX5_replace_12 ?_
        refine k_isub S dX5_replace_13 ?_
        refine k_putf S dX5_replace_14 f_X5_23 (by assumption) (gfit_int _) (Nat.le_of_ble_eq_true rfl) ?_
        obtain ⟨x1, x2⟩ := ht5.care (c1 := c - (j + 1)) (x := ((c - j : Nat) : Int) - 1) (by omega)
        obtain ⟨y1, ⟨f7, y2, y2f⟩, -⟩ := id x1
        have y2a := y2.1
        refine k_aload_n S dX5_replace_17 rfl ?_
        refine k_getf S dX5_replace_18 f_X5_14 (hput_s _ _ _) (by rfl) ?_
        refine k_aload_n S dX5_replace_21 rfl ?_
        refine k_getf S dX5_replace_22 f_X5_23 (hput_s _ _ _) (by rfl) ?_
        refine k_callV_r S dX5_replace_25 v_X5_34 (row_removeAt D y2 (by omega)) (by assumption) (fun h25 hp25 => ?_) rfl rfl (by decide) (by omega) (by omega) (Nat.le_of_ble_eq_true rfl)
        rw [if_pos (by omega), if_pos (by omega)] at hp25
        refine k_pop S dX5_replace_28 ?_
        refine k_iinc S dX5_replace_29 rfl (by decide) ?_
        refine k_goto (tgt := 2) S dX5_replace_32 (by decide) ?_
        obtain ⟨v1, v2⟩ := x1.chars (n1 := n - (j + 1)) (F1 := fun q => if q < c - (j + 1) then F q else F (q + (j + 1))) hp25.2.keeps ⟨_, by have := hp25.1; rw [show n - j - 1 = n - (j + 1) by omega] at this; exact this, fun q hq => by
          have e9 : (((c - j : Nat) : Int) - 1).toNat = c - (j + 1) := by omega
          rw [e9, remF]
          dsimp only
          by_cases e2 : q < c - (j + 1)
          · rw [if_neg (by omega), y2f q (by omega), if_pos e2]
            exact if_pos (by omega)
          · rw [if_pos (by omega), y2f (q + 1) (by omega), if_neg e2, show q + (j + 1) = q + 1 + j by omega]
            exact if_neg (by omega)⟩
        exact ih (j + 1) _ (by omega) v1 (keeps.tr hk5 (keeps.tr x2 v2))
  refine k_iconst S dX5_replace_0 ?_
  refine k_istore_n S dX5_replace_1 (by decide) ?_
  refine loop1 u 0 h (by omega) ?_ keeps.rf
  obtain ⟨u1, u2, u3⟩ := ht
  refine ⟨u1, u2.to (fun q hq => ?_), u3⟩
  by_cases e : q < c - 0
  · rw [if_pos e]
  · rw [if_neg e, Nat.add_zero]
/-- copyFrom(other), of another text -/
theorem tx_copyFrom (D : DD) {h : GH} {t rc ac rs as_ n m c : Nat} {F Z : Nat → Int} (ht : IsText h t rc ac rs as_ n F m Z c) {t2 rc2 ac2 rs2 as2 n2 m2 c2 : Nat} {F2 Z2 : Nat → Int} (ht2 : IsText h t2 rc2 ac2 rs2 as2 n2 F2 m2 Z2 c2) (hd : (rc2 ≠ rc ∧ rc2 ≠ rs ∧ rs2 ≠ rc ∧ rs2 ≠ rs) ∧ (ac2 ≠ ac ∧ ac2 ≠ as_ ∧ as2 ≠ ac ∧ as2 ≠ as_) ∧ t2 ≠ t) : GMet D yX5_copyFrom cX5_copyFrom 2 none [] 4 0 0 [gR (some t), gR (some t2)] h (pv (fun h1 => IsText h1 t rc ac rs as_ n2 F2 m2 Z2 c2 ∧ keeps h h1 (tP t rc ac rs as_))) := by
  obtain ⟨g1, ⟨f2, g2, g2f⟩, ⟨f3, g3, g3f⟩, g4, g5⟩ := id ht
  have g2a := g2.1
  have g3a := g3.1
  have g2b := g2.2.2.1
  have g3b := g3.2.2.1
  obtain ⟨o1, ⟨f4, o2, o2f⟩, ⟨f5, o3, o3f⟩, o4, o5⟩ := id ht2
  have o2a := o2.1
  have o3a := o3.1
  have kn : ∀ {x y : Nat} {u v : gE}, h x = some u → h y = some v → u ≠ v → x ≠ y := fun h1 h2 hne => frm_ne h1 h2 hne
  refine GMet.intro RX5 rfl (by decide) (gcats rfl) (Nat.le_of_ble_eq_true rfl) fun K KX S => ?_
  show K 0 [some _, some _] [] _ 0 0
  refine k_aload_n S dX5_copyFrom_0 rfl ?_
  refine k_getf S dX5_copyFrom_1 f_X5_14 (by assumption) (by rfl) ?_
  refine k_aload_n S dX5_copyFrom_4 rfl ?_
  refine k_getf S dX5_copyFrom_5 f_X5_14 (by assumption) (by rfl) ?_
  refine k_callV_v S dX5_copyFrom_8 v_X5_62 (row_copyFrom D g2 o2 hd.1.1 hd.2.1.1 o2.2.2.1) (by assumption) (fun h8 hp8 => ?_) rfl rfl (by decide) (by omega) (by omega) (Nat.le_of_ble_eq_true rfl)
  obtain ⟨v1, v2⟩ := ht.chars (n1 := n2) (F1 := F2) hp8.2.keeps ⟨_, hp8.1, fun q hq => by rw [if_pos hq, o2f q hq]⟩
  obtain ⟨w1, -, ⟨f6, w3, w3f⟩, -⟩ := id v1
  have w3a := w3.1
  have k8 := hp8.2.keeps
  have p1 : h8 t2 = some (gObj 5 [gR (some rc2), gR (some rs2), gI c2]) := k8 _ _ o1 (by
    rintro (e | e)
    · exact kn o1 g2.1 (fun z => by cases z) e
    · exact kn o1 g2.2.1 (fun z => by cases z) e)
  have p3 : IsRow h8 rs2 as2 200 m2 f5 := o3.kp k8 (by
    rintro (e | e)
    · exact hd.1.2.2.1 e
    · exact kn o3.1 g2.2.1 (fun z => by cases z) e) (by
    rintro (e | e)
    · exact kn o3.2.1 g2.1 (fun z => by cases z) e
    · exact hd.2.1.2.2.1 e)
  have p3a := p3.1
  refine k_aload_n S dX5_copyFrom_11 rfl ?_
  refine k_getf S dX5_copyFrom_12 f_X5_20 (by assumption) (by rfl) ?_
  refine k_aload_n S dX5_copyFrom_15 rfl ?_
  refine k_getf S dX5_copyFrom_16 f_X5_20 (by assumption) (by rfl) ?_
  refine k_callV_v S dX5_copyFrom_19 v_X5_62 (row_copyFrom D w3 p3 hd.1.2.2.2 hd.2.1.2.2.2 p3.2.2.1) (by assumption) (fun h19 hp19 => ?_) rfl rfl (by decide) (by omega) (by omega) (Nat.le_of_ble_eq_true rfl)
  obtain ⟨x1, x2⟩ := v1.stops (m1 := m2) (Z1 := Z2) hp19.2.keeps ⟨_, hp19.1, fun q hq => by rw [if_pos hq, o3f q hq]⟩
  have x1a := x1.1
  have p4 : h19 t2 = some (gObj 5 [gR (some rc2), gR (some rs2), gI c2]) := hp19.2.keeps _ _ p1 (by
    rintro (e | e)
    · exact frm_ne p1 w3.1 (fun z => by cases z) e
    · exact frm_ne p1 w3.2.1 (fun z => by cases z) e)
  refine k_aload_n S dX5_copyFrom_22 rfl ?_
  refine k_aload_n S dX5_copyFrom_23 rfl ?_
  refine k_getf S dX5_copyFrom_24 f_X5_23 (by assumption) (by rfl) ?_
  refine k_putf S dX5_copyFrom_27 f_X5_23 (by assumption) (gfit_int _) (Nat.le_of_ble_eq_true rfl) ?_
  refine k_return S dX5_copyFrom_30 ?_ (by omega) (by omega)
  obtain ⟨y1, y2⟩ := x1.care (c1 := c2) (x := (c2 : Int)) rfl
  exact ⟨rfl, y1, keeps.tr v2 (keeps.tr x2 y2)⟩
