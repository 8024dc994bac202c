section
variable {h : GH} {τ A : Nat → Nat} {td cu lg sv ex un : Int} {n : Nat} {fw of sc sz he : Nat → Int} {re : Nat → Nat} {le tg pn kd on ot : Nat → Int} {rk : Nat → Nat}
def lyG (pn kd on ot sc : Nat → Int) (td : Int) (f s p : Nat) (w : List Int × List Int) : List Int × List Int := if kd p = 99 then (w.1 ++ [on p], w.2) else if kd p = 115 then lyF pn kd on ot sc td f (on p).toNat w else if kd p = 111 then lyF pn kd on ot sc td f (if sc s = 0 then on p else ot p).toNat w else if kd p = 100 then (w.1 ++ dateT (td + on p).toNat (ot p), w.2) else (w.1, w.2 ++ [((w.1.length : Nat) : Int)])
theorem lyF_s (pn kd on ot sc : Nat → Int) (td : Int) (f s : Nat) (w : List Int × List Int) : lyF pn kd on ot sc td (f + 1) s w = lyR (lyG pn kd on ot sc td f s) (pn s).toNat (12 * s) w := rfl
theorem szG_nn (pn kd on ot : Nat → Int) (f q : Nat) : 0 ≤ szG kd on ot (szF pn kd on ot f) q := by
  have h1 := szF_nn (pn := pn) (kd := kd) (on := on) (ot := ot) f (on q).toNat
  have h2 := szF_nn (pn := pn) (kd := kd) (on := on) (ot := ot) f (ot q).toNat
  unfold szG
  split
  · omega
  · split
    · omega
    · split <;> omega
theorem XGft.mk4 {h : GH} {τ : Nat → Nat} {g rc ac rs as_ : Nat} {cl sl : List Int} (hg : IsGift h g rc ac rs as_ cl sl) (ht : ∀ q, tP g rc ac rs as_ q → τ q = 4) : XGft h τ g cl sl := ⟨rc, ac, rs, as_, hg, ht⟩
/-- givePart(giver, part, level) -/
theorem c_givePart (D : DD) {f : Nat} (hG : ∀ (x : Nat) {h : GH} {cl sl : List Int} (_ : XTop h τ A td cu lg sv ex un) (_ : XSn D h τ A n fw of sc sz he re le tg pn kd on ot) (_ : XGft h τ (A 3) cl sl) (_ : x < n) (_ : (cl.length : Int) + szF pn kd on ot f x ≤ 200) (_ : (sl.length : Int) + szF pn kd on ot f x ≤ 200), GMet D yX7_give cX7_give 4 none [] (2 * f + 8) 0 0 [gR (some (A 0)), gR (some (A (10 + x))), gI (9 - (f : Int))] h (pv (fun h1 => XGft h1 τ (A 3) (lyF pn kd on ot sc td f x (cl, sl)).1 (lyF pn kd on ot sc td f x (cl, sl)).2 ∧ keeps h h1 (fun q => τ q = 4)))) (hn : n ≤ 8) (hB : BOk (n : Nat) pn kd on ot rk) (hB2 : BOk2 (n : Nat) pn kd on ot) (htd : 99 ≤ td ∧ td ≤ 9999) (hsc : ∀ s, s < n → sc s = 0 ∨ sc s = 1) {x : Nat} {h : GH} {cl sl : List Int} (hX : XTop h τ A td cu lg sv ex un) (hS : XSn D h τ A n fw of sc sz he re le tg pn kd on ot) (hg : XGft h τ (A 3) cl sl) (hx : x < n) {j q : Nat} (hj : (j : Int) < pn x) (gq : h q = some (gObj 2 [gR (some (cad D (pkK (kd (12 * x + j))))), gI (on (12 * x + j)), gI (pk2 kd on ot (12 * x + j))])) (hc1 : (cl.length : Int) + szG kd on ot (szF pn kd on ot f) (12 * x + j) ≤ 200) (hc2 : (sl.length : Int) + szG kd on ot (szF pn kd on ot f) (12 * x + j) ≤ 200) : GMet D yX7_givePart cX7_givePart 4 none [] (2 * f + 9) 0 0 [gR (some (A 0)), gR (some (A (10 + x))), gR (some q), gI (9 - ((f + 1 : Nat) : Int))] h (pv (fun h1 => XGft h1 τ (A 3) (lyG pn kd on ot sc td f x (12 * x + j) (cl, sl)).1 (lyG pn kd on ot sc td f x (12 * x + j) (cl, sl)).2 ∧ keeps h h1 (fun q => τ q = 4))) := by
  refine GMet.intro RX7 rfl (by decide) (gcats rfl) (Nat.le_of_ble_eq_true rfl) fun K KX S => ?_
  show K 0 [some _, some _, some _, some _] [] _ 0 0
  refine k_cad S (fun n4 inj => ?_)
  have g0 := hX.1
  obtain ⟨gx, tx9⟩ := hS.2.1 x hx
  have hxi : (x : Int) < ((n : Nat) : Int) := by omega
  obtain ⟨⟨p0, p12⟩, hb⟩ := hB x hxi
  obtain ⟨hb1, hb2⟩ := hb (12 * x + j) (by omega) (by omega)
  obtain ⟨hd1, hd2⟩ := hB2 x hxi (12 * x + j) (by omega) (by omega)
  obtain ⟨rc, ac, rs, as_, hg, hgt⟩ := hg
  obtain ⟨g1, ⟨fc, r1, r1f⟩, ⟨fs, r2, r2f⟩, ne1, ne2⟩ := id hg
  have r1a := r1.1
  have r2a := r2.1
  have g1a : h (A 3) = some (gObj 0 [gR (some rc), gR (some rs)]) := g1
  have tc : ∀ q, q = rc ∨ q = ac → τ q = 4 := fun q z => hgt q (z.elim (fun e => Or.inr (Or.inl e)) (fun e => Or.inr (Or.inr (Or.inl e))))
  have ts : ∀ q, q = rs ∨ q = as_ → τ q = 4 := fun q z => hgt q (z.elim (fun e => Or.inr (Or.inr (Or.inr (Or.inl e)))) (fun e => Or.inr (Or.inr (Or.inr (Or.inr e)))))
  have fin : ∀ (h6 : GH) (cl6 sl6 : List Int), XGft h6 τ (A 3) cl6 sl6 → keeps h h6 (fun q => τ q = 4) → lyG pn kd on ot sc td f x (12 * x + j) (cl, sl) = (cl6, sl6) → K 122 [some (gR (some (A 0))), some (gR (some (A (10 + x)))), some (gR (some q)), some (gI (9 - ((f + 1 : Nat) : Int)))] [] h6 0 0 := fun h6 cl6 sl6 G6 k6 e => by
    exact k_return S dX7_givePart_122 ⟨rfl, by rw [e]; exact ⟨G6, k6⟩⟩ (by omega) (by omega)
  refine k_aload_n S dX7_givePart_0 rfl ?_
  refine k_getf S dX7_givePart_1 f_X7_285 (by assumption) (by rfl) ?_
  refine k_getsK (i := 0) S (by decide) dX7_givePart_4 (Or.inl m_X7_118) ?_
  refine k_acmp_ne (tgt := 27) S dX7_givePart_7 (by decide) (fun c7 => ?_) (fun c7 => ?_)
  · have n99 : ¬ kd (12 * x + j) = 99 := fun z => c7 (by rw [pkK_0.mpr z])
    refine k_aload_n S dX7_givePart_27 rfl ?_
    refine k_getf S dX7_givePart_28 f_X7_285 (by assumption) (by rfl) ?_
    refine k_getsK (i := 3) S (by decide) dX7_givePart_31 (Or.inl m_X7_145) ?_
    refine k_acmp_ne (tgt := 60) S dX7_givePart_34 (by decide) (fun c34 => ?_) (fun c34 => ?_)
    · refine k_aload_n S dX7_givePart_60 rfl ?_
      refine k_getf S dX7_givePart_61 f_X7_285 (by assumption) (by rfl) ?_
      refine k_getsK (i := 2) S (by decide) dX7_givePart_64 (Or.inl m_X7_142) ?_
      refine k_acmp_ne (tgt := 93) S dX7_givePart_67 (by decide) (fun c67 => ?_) (fun c67 => ?_)
      · have yk : kd (12 * x + j) = 115 ∨ kd (12 * x + j) = 111 := by
          have h0 := @pkK_0 (kd (12 * x + j))
          have h1 := @pkK_1 (kd (12 * x + j))
          have h3 := pkK_lt (kd (12 * x + j))
          have n3 : ¬ pkK (kd (12 * x + j)) = 3 := fun z => c34 (by rw [z])
          have n2 : ¬ pkK (kd (12 * x + j)) = 2 := fun z => c67 (by rw [z])
          omega
        have call : ∀ y : Nat, y < n → szF pn kd on ot f y + 1 ≤ szG kd on ot (szF pn kd on ot f) (12 * x + j) → lyG pn kd on ot sc td f x (12 * x + j) (cl, sl) = lyF pn kd on ot sc td f y (cl, sl) → K 113 [some (gR (some (A 0))), some (gR (some (A (10 + x)))), some (gR (some q)), some (gI (9 - ((f + 1 : Nat) : Int)))] [gI y, gR (some (A 0)), gR (some (A 0))] h 0 0 := fun y hy hsz he => by
          obtain ⟨gy, -⟩ := hS.2.1 y hy
          refine k_callV_r S dX7_givePart_113 v_X7_81 (c_snAt_g D hX hS.1 hn hy gy) (by assumption) (fun h113 hp113 => ?_) rfl rfl (by omega) (by omega) (by omega) (Nat.le_of_ble_eq_true rfl)
          rw [hp113]
          refine k_iload_n S dX7_givePart_116 rfl ?_
          refine k_iconst S dX7_givePart_117 ?_
          refine k_iadd S dX7_givePart_118 ?_
          rw [show (9 - ((f + 1 : Nat) : Int)) + 1 = 9 - (f : Int) by omega]
          refine k_callV_v S dX7_givePart_119 v_X7_308 (hG y hX hS ⟨rc, ac, rs, as_, hg, hgt⟩ hy (by omega) (by omega)) (by assumption) (fun h119 hp119 => ?_) rfl rfl (by omega) (by omega) (by omega) (Nat.le_of_ble_eq_true rfl)
          exact fin h119 _ _ hp119.1 hp119.2 he
        have e99 : ∀ {α : Type} (u v : α), (if kd (12 * x + j) = 99 then u else v) = v := fun u v => if_neg n99
        refine k_aload_n S dX7_givePart_93 rfl ?_
        refine k_aload_n S dX7_givePart_94 rfl ?_
        refine k_aload_n S dX7_givePart_95 rfl ?_
        refine k_getf S dX7_givePart_96 f_X7_157 (by assumption) (by rfl) ?_
        refine k_if_eq (tgt := 109) S dX7_givePart_99 (by decide) (by have := hsc x hx; omega) (fun c99 => ?_) (fun c99 => ?_)
        · refine k_aload_n S dX7_givePart_109 rfl ?_
          refine k_getf S dX7_givePart_110 f_X7_288 (by assumption) (by rfl) ?_
          have u1 := hb1 yk
          rw [show on (12 * x + j) = (((on (12 * x + j)).toNat : Nat) : Int) by omega]
          refine call _ (by omega) ?_ ?_
          · unfold szG
            rcases yk with z | z
            · rw [if_pos z]; omega
            · rw [if_neg (by omega), if_pos z]; omega
          · unfold lyG
            rw [e99]
            rcases yk with z | z
            · rw [if_pos z]
            · rw [if_neg (by omega), if_pos z, if_pos (by omega)]
        · refine k_aload_n S dX7_givePart_102 rfl ?_
          refine k_getf S dX7_givePart_103 f_X7_291 (by assumption) (by rfl) ?_
          refine k_goto (tgt := 113) S dX7_givePart_106 (by decide) ?_
          have ep : pk2 kd on ot (12 * x + j) = (((pk2 kd on ot (12 * x + j)).toNat : Nat) : Int) ∧ (pk2 kd on ot (12 * x + j)).toNat < n := by
            have u1 := hb1 yk
            unfold pk2
            split
            · omega
            · have := hb2 (yk.resolve_left ‹_›); omega
          rw [ep.1]
          refine call _ ep.2 ?_ ?_
          · unfold szG pk2
            rcases yk with z | z
            · rw [if_pos z, if_pos z]; omega
            · rw [if_neg (by omega), if_pos z, if_neg (by omega)]; omega
          · unfold lyG pk2
            rw [e99]
            rcases yk with z | z
            · rw [if_pos z, if_pos z]
            · rw [if_neg (by omega), if_pos z, if_neg (by omega), if_neg (by omega)]
      · have yk : kd (12 * x + j) = 100 := pkK_2.mp (inj _ 2 (pkK_lt _) (by omega) (Option.some.inj c67))
        have hd := hd2 yk
        have es : szG kd on ot (szF pn kd on ot f) (12 * x + j) = 5 := by unfold szG; rw [if_neg (by omega), if_neg (by omega), if_pos yk]
        have e2 : pk2 kd on ot (12 * x + j) = ot (12 * x + j) := by unfold pk2; rw [if_neg (by omega)]
        refine k_aload_n S dX7_givePart_70 rfl ?_
        refine k_getf S dX7_givePart_71 f_X7_26 (by assumption) (by rfl) ?_
        refine k_aload_n S dX7_givePart_74 rfl ?_
        refine k_getf S dX7_givePart_75 f_X7_40 (by assumption) (by rfl) ?_
        refine k_aload_n S dX7_givePart_78 rfl ?_
        refine k_getf S dX7_givePart_79 f_X7_288 (by assumption) (by rfl) ?_
        refine k_iadd S dX7_givePart_82 ?_
        refine k_aload_n S dX7_givePart_83 rfl ?_
        refine k_getf S dX7_givePart_84 f_X7_291 (by assumption) (by rfl) ?_
        rw [e2, show td + on (12 * x + j) = (((td + on (12 * x + j)).toNat : Nat) : Int) by omega]
        refine k_callV_v S dX7_givePart_87 v_X7_316 (gf_addDate D hg (x := (td + on (12 * x + j)).toNat) (by omega) (form := ot (12 * x + j)) (by unfold inR; omega) (by omega)) (by assumption) (fun h87 hp87 => ?_) rfl rfl (by omega) (by omega) (by omega) (Nat.le_of_ble_eq_true rfl)
        refine k_goto (tgt := 122) S dX7_givePart_90 (by decide) ?_
        refine fin h87 _ _ (XGft.mk4 hp87.1 hgt) (hp87.2.mono tc) ?_
        unfold lyG
        rw [if_neg (by omega), if_neg (by omega), if_neg (by omega), if_pos yk]
    · have yk : ¬ (kd (12 * x + j) = 99 ∨ kd (12 * x + j) = 115 ∨ kd (12 * x + j) = 111 ∨ kd (12 * x + j) = 100) := pkK_3.mp (inj _ 3 (pkK_lt _) (by omega) (Option.some.inj c34))
      have es : szG kd on ot (szF pn kd on ot f) (12 * x + j) = 1 := by unfold szG; rw [if_neg (by omega), if_neg (by omega), if_neg (by omega)]
      refine k_aload_n S dX7_givePart_37 rfl ?_
      refine k_getf S dX7_givePart_38 f_X7_26 (by assumption) (by rfl) ?_
      refine k_getf S dX7_givePart_41 f_X7_182 (by assumption) (by rfl) ?_
      refine k_aload_n S dX7_givePart_44 rfl ?_
      refine k_getf S dX7_givePart_45 f_X7_26 (by assumption) (by rfl) ?_
      refine k_getf S dX7_givePart_48 f_X7_166 (by assumption) (by rfl) ?_
      refine k_callV_r S dX7_givePart_51 v_X7_107 (row_count D r1) (by assumption) (fun h51 hp51 => ?_) rfl rfl (by omega) (by omega) (by omega) (Nat.le_of_ble_eq_true rfl)
      rw [hp51]
      refine k_callV_v S dX7_givePart_54 v_X7_101 (row_add D r2 (v := ((cl.length : Nat) : Int))) (by assumption) (fun h54 hp54 => ?_) rfl rfl (by omega) (by omega) (by omega) (Nat.le_of_ble_eq_true rfl)
      refine k_goto (tgt := 122) S dX7_givePart_57 (by decide) ?_
      have k54 := hp54.2.keeps
      refine fin h54 _ _ (XGft.mk4 (hg.stops k54 (RowL.add rfl (by omega) r2f hp54.1)) hgt) (k54.mono ts) ?_
      unfold lyG
      rw [if_neg (by omega), if_neg (by omega), if_neg (by omega), if_neg (by omega)]
  · have yk : kd (12 * x + j) = 99 := pkK_0.mp (inj _ 0 (pkK_lt _) (by omega) (Option.some.inj c7))
    have es : szG kd on ot (szF pn kd on ot f) (12 * x + j) = 1 := by unfold szG; rw [if_neg (by omega), if_neg (by omega), if_neg (by omega)]
    refine k_aload_n S dX7_givePart_10 rfl ?_
    refine k_getf S dX7_givePart_11 f_X7_26 (by assumption) (by rfl) ?_
    refine k_getf S dX7_givePart_14 f_X7_166 (by assumption) (by rfl) ?_
    refine k_aload_n S dX7_givePart_17 rfl ?_
    refine k_getf S dX7_givePart_18 f_X7_288 (by assumption) (by rfl) ?_
    refine k_callV_v S dX7_givePart_21 v_X7_101 (row_add D r1 (v := on (12 * x + j))) (by assumption) (fun h21 hp21 => ?_) rfl rfl (by omega) (by omega) (by omega) (Nat.le_of_ble_eq_true rfl)
    refine k_goto (tgt := 122) S dX7_givePart_24 (by decide) ?_
    have k21 := hp21.2.keeps
    refine fin h21 _ _ (XGft.mk4 (hg.chars k21 (RowL.add rfl (by omega) r1f hp21.1)) hgt) (k21.mono tc) ?_
    unfold lyG
    rw [if_pos yk]
theorem lyG_len (hB : BOk (n : Nat) pn kd on ot rk) (hB2 : BOk2 (n : Nat) pn kd on ot) (htd : 99 ≤ td ∧ td ≤ 9999) {f x p : Nat} (hx : x < n) (h1 : 12 * x ≤ p) (h2 : (p : Int) < 12 * (x : Nat) + pn x) (w : List Int × List Int) : (((lyG pn kd on ot sc td f x p w).1.length : Nat) : Int) ≤ w.1.length + szG kd on ot (szF pn kd on ot f) p ∧ (((lyG pn kd on ot sc td f x p w).2.length : Nat) : Int) ≤ w.2.length + szG kd on ot (szF pn kd on ot f) p := by
  have hxi : (x : Int) < ((n : Nat) : Int) := by omega
  obtain ⟨b1, b2⟩ := (hB x hxi).2 p h1 h2
  obtain ⟨b3, b4⟩ := hB2 x hxi p h1 h2
  have L := fun y (hy : ((y : Nat) : Int) < ((n : Nat) : Int)) => lyF_len (sc := sc) hB hB2 htd f y hy w
  unfold lyG szG
  by_cases e1 : kd p = 99
  · rw [if_pos e1, if_neg (by omega), if_neg (by omega), if_neg (by omega)]
    simp only [List.length_append, List.length_cons, List.length_nil]
    omega
  · rw [if_neg e1]
    by_cases e2 : kd p = 115
    · rw [if_pos e2, if_pos e2]
      have := L (on p).toNat (by have := b1 (Or.inl e2); omega)
      omega
    · rw [if_neg e2, if_neg e2]
      by_cases e3 : kd p = 111
      · rw [if_pos e3, if_pos e3]
        have u1 := b1 (Or.inr e3)
        have u2 := b2 e3
        have v1 := L (on p).toNat (by omega)
        have v2 := L (ot p).toNat (by omega)
        split <;> omega
      · rw [if_neg e3, if_neg e3]
        by_cases e4 : kd p = 100
        · rw [if_pos e4, if_pos e4]
          have := b4 e4
          have := dateT_len (day := (td + on p).toNat) (by omega) (ot p)
          simp only [List.length_append]
          omega
        · rw [if_neg e4, if_neg e4]
          simp only [List.length_append, List.length_cons, List.length_nil]
          omega
/-- give(giver, level) -/
theorem c_give (D : DD) (hn : n ≤ 8) (hB : BOk (n : Nat) pn kd on ot rk) (hB2 : BOk2 (n : Nat) pn kd on ot) (htd : 99 ≤ td ∧ td ≤ 9999) (hsc : ∀ s, s < n → sc s = 0 ∨ sc s = 1) : ∀ (f : Nat), f ≤ 8 → ∀ (x : Nat) {h : GH} {cl sl : List Int} (_ : XTop h τ A td cu lg sv ex un) (_ : XSn D h τ A n fw of sc sz he re le tg pn kd on ot) (_ : XGft h τ (A 3) cl sl) (_ : x < n) (_ : (cl.length : Int) + szF pn kd on ot f x ≤ 200) (_ : (sl.length : Int) + szF pn kd on ot f x ≤ 200), GMet D yX7_give cX7_give 4 none [] (2 * f + 8) 0 0 [gR (some (A 0)), gR (some (A (10 + x))), gI (9 - (f : Int))] h (pv (fun h1 => XGft h1 τ (A 3) (lyF pn kd on ot sc td f x (cl, sl)).1 (lyF pn kd on ot sc td f x (cl, sl)).2 ∧ keeps h h1 (fun q => τ q = 4))) := by
  intro f
  induction f with
  | zero =>
    intro _ x h cl sl hX hS hg hx hc1 hc2
    refine GMet.intro RX7 rfl (by decide) (gcats rfl) (Nat.le_of_ble_eq_true rfl) fun K KX S => ?_
    show K 0 [some _, some _, some _, none] [] _ 0 0
    refine k_iload_n S dX7_give_0 rfl ?_
    refine k_bipush S dX7_give_1 ?_
    refine k_icmp_le (tgt := 7) S dX7_give_3 (by decide) (by omega) (by omega) (fun c3 => ?_) (fun c3 => ?_)
    · omega
    · exact k_return S dX7_give_6 ⟨rfl, hg, keeps.rf⟩ (by omega) (by omega)
  | succ f ih =>
    intro hf x h cl sl hX hS hg hx hc1 hc2
    refine GMet.intro RX7 rfl (by decide) (gcats rfl) (Nat.le_of_ble_eq_true rfl) fun K KX S => ?_
    show K 0 [some _, some _, some _, none] [] _ 0 0
    have hp := (hB x (by omega)).1
    rw [szF_s] at hc1 hc2
    have loop : ∀ (d j : Nat) (h5 : GH) (cl5 sl5 : List Int), j + d = (pn x).toNat → XGft h5 τ (A 3) cl5 sl5 → keeps h h5 (fun q => τ q = 4) → (cl5.length : Int) + sumR (szG kd on ot (szF pn kd on ot f)) d (12 * x + j) ≤ 200 → (sl5.length : Int) + sumR (szG kd on ot (szF pn kd on ot f)) d (12 * x + j) ≤ 200 → lyF pn kd on ot sc td (f + 1) x (cl, sl) = lyR (lyG pn kd on ot sc td f x) d (12 * x + j) (cl5, sl5) → K 9 [some (gR (some (A 0))), some (gR (some (A (10 + x)))), some (gI (9 - ((f + 1 : Nat) : Int))), some (gI j)] [] h5 0 0 := by
      intro d
      induction d with
      | zero =>
        intro j h5 cl5 sl5 hj G5 k5 q1 q2 hv
        have X5 := hX.kp k5 (fun q e => by omega)
        have S5 := hS.kp k5 (fun q e => by omega)
        have g05 := X5.1
        obtain ⟨gx, -⟩ := S5.2.1 x hx
        obtain ⟨F, ⟨e, cap, f5, hl, hf5, -, -⟩, hF⟩ := S5.2.2.2 x hx
        obtain ⟨m9, gl⟩ := hl.1
        refine k_iload_n S dX7_give_9 rfl ?_
        refine k_aload_n S dX7_give_10 rfl ?_
        refine k_getf S dX7_give_11 f_X7_148 (by assumption) (by rfl) ?_
        refine k_callV_r S dX7_give_14 v_X7_61 (li_size D hl) (by assumption) (fun h14 hp14 => ?_) rfl rfl (by omega) (by omega) (by omega) (Nat.le_of_ble_eq_true rfl)
        rw [hp14]
        refine k_icmp_ge (tgt := 43) S dX7_give_17 (by decide) (by omega) (by omega) (fun c17 => ?_) (fun c17 => ?_)
        · exact k_return S dX7_give_43 ⟨rfl, by rw [hv, lyR]; exact ⟨G5, k5⟩⟩ (by omega) (by omega)
        · omega
      | succ d ih2 =>
        intro j h5 cl5 sl5 hj G5 k5 q1 q2 hv
        have X5 := hX.kp k5 (fun q e => by omega)
        have S5 := hS.kp k5 (fun q e => by omega)
        have g05 := X5.1
        obtain ⟨gx, -⟩ := S5.2.1 x hx
        obtain ⟨F, ⟨e, cap, f5, hl, hf5, -, -⟩, hF⟩ := S5.2.2.2 x hx
        obtain ⟨m9, gl⟩ := hl.1
        have hjn : j < (pn x).toNat := by omega
        obtain ⟨gp, tp, -⟩ := hF j hjn
        dsimp only at gp
        rw [sumR] at q1 q2
        rw [lyR] at hv
        have rest := sumR_nn (g := szG kd on ot (szF pn kd on ot f)) d (12 * x + j + 1) (fun q _ _ => szG_nn pn kd on ot f q)
        refine k_iload_n S dX7_give_9 rfl ?_
        refine k_aload_n S dX7_give_10 rfl ?_
        refine k_getf S dX7_give_11 f_X7_148 (by assumption) (by rfl) ?_
        refine k_callV_r S dX7_give_14 v_X7_61 (li_size D hl) (by assumption) (fun h14 hp14 => ?_) rfl rfl (by omega) (by omega) (by omega) (Nat.le_of_ble_eq_true rfl)
        rw [hp14]
        refine k_icmp_ge (tgt := 43) S dX7_give_17 (by decide) (by omega) (by omega) (fun c17 => ?_) (fun c17 => ?_)
        · omega
        · refine k_aload_n S dX7_give_20 rfl ?_
          refine k_aload_n S dX7_give_21 rfl ?_
          refine k_aload_n S dX7_give_22 rfl ?_
          refine k_getf S dX7_give_23 f_X7_148 (by assumption) (by rfl) ?_
          refine k_iload_n S dX7_give_26 rfl ?_
          refine k_callV_r S dX7_give_27 v_X7_250 (li_get D hl (i := ((j : Nat) : Int)) (by omega)) (by assumption) (fun h27 hp27 => ?_) rfl rfl (by omega) (by omega) (by omega) (Nat.le_of_ble_eq_true rfl)
          rw [hp27, show ((j : Nat) : Int).toNat = j by omega, hf5 j hjn]
          refine k_castS S dX7_give_30 cl_X7_116 (by assumption) rfl ?_
          refine k_iload_n S dX7_give_33 rfl ?_
          refine k_callV_v S dX7_give_34 v_X7_312 (c_givePart D (ih (by omega)) hn hB hB2 htd hsc X5 S5 G5 hx (j := j) (by omega) gp (by omega) (by omega)) (by assumption) (fun h34 hp34 => ?_) rfl rfl (by omega) (by omega) (by omega) (Nat.le_of_ble_eq_true rfl)
          refine k_iinc S dX7_give_37 rfl (by decide) ?_
          refine k_goto (tgt := 9) S dX7_give_40 (by decide) ?_
          have w1 : (((lyG pn kd on ot sc td f x (12 * x + j) (cl5, sl5)).1.length : Nat) : Int) ≤ cl5.length + szG kd on ot (szF pn kd on ot f) (12 * x + j) ∧ (((lyG pn kd on ot sc td f x (12 * x + j) (cl5, sl5)).2.length : Nat) : Int) ≤ sl5.length + szG kd on ot (szF pn kd on ot f) (12 * x + j) := lyG_len hB hB2 htd (by omega) (by omega) (by omega) (cl5, sl5)
          refine ih2 (j + 1) h34 _ _ (by omega) hp34.1 (k5.tr hp34.2) ?_ ?_ ?_
          · rw [show 12 * x + (j + 1) = 12 * x + j + 1 by omega]; omega
          · rw [show 12 * x + (j + 1) = 12 * x + j + 1 by omega]; omega
          · rw [show 12 * x + (j + 1) = 12 * x + j + 1 by omega]; exact hv
    refine k_iload_n S dX7_give_0 rfl ?_
    refine k_bipush S dX7_give_1 ?_
    refine k_icmp_le (tgt := 7) S dX7_give_3 (by decide) (by omega) (by omega) (fun c3 => ?_) (fun c3 => ?_)
    · refine k_iconst S dX7_give_7 ?_
      refine k_istore_n S dX7_give_8 (by decide) ?_
      exact loop (pn x).toNat 0 h cl sl (by omega) hg keeps.rf (by simpa using hc1) (by simpa using hc2) (by rw [lyF_s]; rfl)
    · omega
/-- gather(giver) -/
theorem c_gather (D : DD) (hX : XTop h τ A td cu lg sv ex un) (hS : XS D h τ A n fw of sc le tg pn kd on ot) (hg : ∃ cl0 sl0 : List Int, XGft h τ (A 3) cl0 sl0) (hn : n ≤ 8) (hB : BOk (n : Nat) pn kd on ot rk) (hB2 : BOk2 (n : Nat) pn kd on ot) (htd : 99 ≤ td ∧ td ≤ 9999) (hsc : ∀ s, s < n → sc s = 0 ∨ sc s = 1) (h200 : ∀ s : Nat, (s : Int) < ((n : Nat) : Int) → szF pn kd on ot 8 s ≤ 200) {x : Nat} (hx : x < n) : GMet D yX7_gather cX7_gather 2 none [] 25 0 0 [gR (some (A 0)), gR (some (A (10 + x)))] h (pv (fun h1 => XGft h1 τ (A 3) (lyF pn kd on ot sc td 8 x ([], [])).1 (lyF pn kd on ot sc td 8 x ([], [])).2 ∧ keeps h h1 (fun q => τ q = 4))) := by
  refine GMet.intro RX7 rfl (by decide) (gcats rfl) (Nat.le_of_ble_eq_true rfl) fun K KX S => ?_
  show K 0 [some _, some _] [] _ 0 0
  have g0 := hX.1
  obtain ⟨sz, he, re, hS, hG⟩ := hS
  obtain ⟨gx, tx9⟩ := hS.2.1 x hx
  obtain ⟨cl0, sl0, rc, ac, rs, as_, hg, hgt⟩ := hg
  have g1 := hg.1
  refine k_aload_n S dX7_gather_0 rfl ?_
  refine k_getf S dX7_gather_1 f_X7_26 (by assumption) (by rfl) ?_
  refine k_callV_v S dX7_gather_4 v_X7_307 (gf_empty D hg) (by assumption) (fun h4 hp4 => ?_) rfl rfl (by decide) (by omega) (by omega) (Nat.le_of_ble_eq_true rfl)
  have k4 : keeps h h4 (fun q => τ q = 4) := hp4.2.mono fun q z => hgt q (Or.inr z)
  have X4 := hX.kp k4 (fun q e => by omega)
  have S4 := hS.kp k4 (fun q e => by omega)
  have g04 := X4.1
  have hs2 := h200 x (by omega)
  refine k_aload_n S dX7_gather_7 rfl ?_
  refine k_aload_n S dX7_gather_8 rfl ?_
  refine k_iconst S dX7_gather_9 ?_
  rw [show (1 : Int) = 9 - ((8 : Nat) : Int) by omega]
  refine k_callV_v S dX7_gather_10 v_X7_308 (c_give D hn hB hB2 htd hsc 8 (by omega) x X4 S4 ⟨rc, ac, rs, as_, hp4.1, hgt⟩ hx (by simpa using hs2) (by simpa using hs2)) (by assumption) (fun h10 hp10 => ?_) rfl rfl (by decide) (by omega) (by omega) (Nat.le_of_ble_eq_true rfl)
  exact k_return S dX7_gather_13 ⟨rfl, hp10.1, k4.tr hp10.2⟩ (by omega) (by omega)
/-- lengthOf, none there -/
theorem c_lengthOf_b (D : DD) (hX : XTop h τ A td cu lg sv ex un) (hn : n ≤ 8) (hS : XS D h τ A n fw of sc le tg pn kd on ot) {k : Int} (hr : inR k) (hk : ¬ (0 ≤ k ∧ k < n)) : GMet D yX7_lengthOf cX7_lengthOf 2 (some .int) [] 27 1 6 [gR (some (A 0)), gI k] h (px "java/lang/IndexOutOfBoundsException" (fun h1 => h1 = h)) := by
  refine GMet.intro RX7 rfl (by decide) (gcats rfl) (Nat.le_of_ble_eq_true rfl) fun K KX S => ?_
  show K 0 [some _, some _] [] _ 0 0
  have g0 := hX.1
  obtain ⟨sz, he, re, hS, hG⟩ := hS
  refine k_aload_n S dX7_lengthOf_0 rfl ?_
  refine k_aload_n S dX7_lengthOf_1 rfl ?_
  refine k_iload_n S dX7_lengthOf_2 rfl ?_
  refine k_callV_x S dX7_lengthOf_3 v_X7_81 (c_snAt_x D hX hS.1 hn hr hk) (by assumption) (fun h3 hp3 => ?_) rfl rfl (by decide) (by omega) (by omega) (Nat.le_of_ble_eq_true rfl)
  rw [hp3]
  exact k_out S ⟨rfl, rfl⟩ (by omega) (by omega)
/-- lengthOf -/
theorem c_lengthOf_g (D : DD) (hX : XTop h τ A td cu lg sv ex un) (hS : XS D h τ A n fw of sc le tg pn kd on ot) (hg : ∃ cl0 sl0 : List Int, XGft h τ (A 3) cl0 sl0) (hn : n ≤ 8) (hB : BOk (n : Nat) pn kd on ot rk) (hB2 : BOk2 (n : Nat) pn kd on ot) (htd : 99 ≤ td ∧ td ≤ 9999) (hsc : ∀ s, s < n → sc s = 0 ∨ sc s = 1) (h200 : ∀ s : Nat, (s : Int) < ((n : Nat) : Int) → szF pn kd on ot 8 s ≤ 200) {x : Nat} (hx : x < n) : GMet D yX7_lengthOf cX7_lengthOf 2 (some .int) [] 27 1 6 [gR (some (A 0)), gI x] h (pr (gI ((((lyF pn kd on ot sc td 8 x ([], [])).1).length : Nat) : Int)) (fun h1 => XGft h1 τ (A 3) (lyF pn kd on ot sc td 8 x ([], [])).1 (lyF pn kd on ot sc td 8 x ([], [])).2 ∧ keeps h h1 (fun q => τ q = 4))) := by
  refine GMet.intro RX7 rfl (by decide) (gcats rfl) (Nat.le_of_ble_eq_true rfl) fun K KX S => ?_
  show K 0 [some _, some _] [] _ 0 0
  have hS0 := hS
  obtain ⟨sz, he, re, hS, hG⟩ := hS
  have g0 := hX.1
  obtain ⟨gx, tx9⟩ := hS.2.1 x hx
  refine k_aload_n S dX7_lengthOf_0 rfl ?_
  refine k_aload_n S dX7_lengthOf_1 rfl ?_
  refine k_iload_n S dX7_lengthOf_2 rfl ?_
  refine k_callV_r S dX7_lengthOf_3 v_X7_81 (c_snAt_g D hX hS.1 hn hx gx) (by assumption) (fun h3 hp3 => ?_) rfl rfl (by decide) (by omega) (by omega) (Nat.le_of_ble_eq_true rfl)
  rw [hp3]
  refine k_callV_v S dX7_lengthOf_6 v_X7_162 (c_gather D hX hS0 hg hn hB hB2 htd hsc h200 hx) (by assumption) (fun h6 hp6 => ?_) rfl rfl (by decide) (by omega) (by omega) (Nat.le_of_ble_eq_true rfl)
  have X6 := hX.kp hp6.2 (fun q e => by omega)
  have g06 := X6.1
  obtain ⟨rc, ac, rs, as_, hg6, hgt⟩ := id hp6.1
  obtain ⟨g1, ⟨fc, r1, r1f⟩, ⟨fs, r2, r2f⟩, ne1, ne2⟩ := hg6
  have r1a := r1.1
  have r2a := r2.1
  refine k_aload_n S dX7_lengthOf_9 rfl ?_
  refine k_getf S dX7_lengthOf_10 f_X7_26 (by assumption) (by rfl) ?_
  refine k_getf S dX7_lengthOf_13 f_X7_166 (by assumption) (by rfl) ?_
  refine k_callV_r S dX7_lengthOf_16 v_X7_107 (row_count D r1) (by assumption) (fun h16 hp16 => ?_) rfl rfl (by decide) (by omega) (by omega) (Nat.le_of_ble_eq_true rfl)
  rw [hp16]
  exact k_ireturn S dX7_lengthOf_19 ⟨rfl, hp6⟩ (by omega) (by omega)
/-- stopsOf, none there -/
theorem c_stopsOf_b (D : DD) (hX : XTop h τ A td cu lg sv ex un) (hn : n ≤ 8) (hS : XS D h τ A n fw of sc le tg pn kd on ot) {k : Int} (hr : inR k) (hk : ¬ (0 ≤ k ∧ k < n)) : GMet D yX7_stopsOf cX7_stopsOf 2 (some .int) [] 27 1 6 [gR (some (A 0)), gI k] h (px "java/lang/IndexOutOfBoundsException" (fun h1 => h1 = h)) := by
  refine GMet.intro RX7 rfl (by decide) (gcats rfl) (Nat.le_of_ble_eq_true rfl) fun K KX S => ?_
  show K 0 [some _, some _] [] _ 0 0
  have g0 := hX.1
  obtain ⟨sz, he, re, hS, hG⟩ := hS
  refine k_aload_n S dX7_stopsOf_0 rfl ?_
  refine k_aload_n S dX7_stopsOf_1 rfl ?_
  refine k_iload_n S dX7_stopsOf_2 rfl ?_
  refine k_callV_x S dX7_stopsOf_3 v_X7_81 (c_snAt_x D hX hS.1 hn hr hk) (by assumption) (fun h3 hp3 => ?_) rfl rfl (by decide) (by omega) (by omega) (Nat.le_of_ble_eq_true rfl)
  rw [hp3]
  exact k_out S ⟨rfl, rfl⟩ (by omega) (by omega)
/-- stopsOf -/
theorem c_stopsOf_g (D : DD) (hX : XTop h τ A td cu lg sv ex un) (hS : XS D h τ A n fw of sc le tg pn kd on ot) (hg : ∃ cl0 sl0 : List Int, XGft h τ (A 3) cl0 sl0) (hn : n ≤ 8) (hB : BOk (n : Nat) pn kd on ot rk) (hB2 : BOk2 (n : Nat) pn kd on ot) (htd : 99 ≤ td ∧ td ≤ 9999) (hsc : ∀ s, s < n → sc s = 0 ∨ sc s = 1) (h200 : ∀ s : Nat, (s : Int) < ((n : Nat) : Int) → szF pn kd on ot 8 s ≤ 200) {x : Nat} (hx : x < n) : GMet D yX7_stopsOf cX7_stopsOf 2 (some .int) [] 27 1 6 [gR (some (A 0)), gI x] h (pr (gI ((((lyF pn kd on ot sc td 8 x ([], [])).2).length : Nat) : Int)) (fun h1 => XGft h1 τ (A 3) (lyF pn kd on ot sc td 8 x ([], [])).1 (lyF pn kd on ot sc td 8 x ([], [])).2 ∧ keeps h h1 (fun q => τ q = 4))) := by
  refine GMet.intro RX7 rfl (by decide) (gcats rfl) (Nat.le_of_ble_eq_true rfl) fun K KX S => ?_
  show K 0 [some _, some _] [] _ 0 0
  have hS0 := hS
  obtain ⟨sz, he, re, hS, hG⟩ := hS
  have g0 := hX.1
  obtain ⟨gx, tx9⟩ := hS.2.1 x hx
  refine k_aload_n S dX7_stopsOf_0 rfl ?_
  refine k_aload_n S dX7_stopsOf_1 rfl ?_
  refine k_iload_n S dX7_stopsOf_2 rfl ?_
  refine k_callV_r S dX7_stopsOf_3 v_X7_81 (c_snAt_g D hX hS.1 hn hx gx) (by assumption) (fun h3 hp3 => ?_) rfl rfl (by decide) (by omega) (by omega) (Nat.le_of_ble_eq_true rfl)
  rw [hp3]
  refine k_callV_v S dX7_stopsOf_6 v_X7_162 (c_gather D hX hS0 hg hn hB hB2 htd hsc h200 hx) (by assumption) (fun h6 hp6 => ?_) rfl rfl (by decide) (by omega) (by omega) (Nat.le_of_ble_eq_true rfl)
  have X6 := hX.kp hp6.2 (fun q e => by omega)
  have g06 := X6.1
  obtain ⟨rc, ac, rs, as_, hg6, hgt⟩ := id hp6.1
  obtain ⟨g1, ⟨fc, r1, r1f⟩, ⟨fs, r2, r2f⟩, ne1, ne2⟩ := hg6
  have r1a := r1.1
  have r2a := r2.1
  refine k_aload_n S dX7_stopsOf_9 rfl ?_
  refine k_getf S dX7_stopsOf_10 f_X7_26 (by assumption) (by rfl) ?_
  refine k_getf S dX7_stopsOf_13 f_X7_182 (by assumption) (by rfl) ?_
  refine k_callV_r S dX7_stopsOf_16 v_X7_107 (row_count D r2) (by assumption) (fun h16 hp16 => ?_) rfl rfl (by decide) (by omega) (by omega) (Nat.le_of_ble_eq_true rfl)
  rw [hp16]
  exact k_ireturn S dX7_stopsOf_19 ⟨rfl, hp6⟩ (by omega) (by omega)
/-- characterOf, none there -/
theorem c_characterOf_b (D : DD) (hX : XTop h τ A td cu lg sv ex un) (hn : n ≤ 8) (hS : XS D h τ A n fw of sc le tg pn kd on ot) {k : Int} (hr : inR k) (hk : ¬ (0 ≤ k ∧ k < n)) {u : Int} : GMet D yX7_characterOf cX7_characterOf 3 (some .char) [] 27 1 6 [gR (some (A 0)), gI k, gI u] h (px "java/lang/IndexOutOfBoundsException" (fun h1 => h1 = h)) := by
  refine GMet.intro RX7 rfl (by decide) (gcats rfl) (Nat.le_of_ble_eq_true rfl) fun K KX S => ?_
  show K 0 [some _, some _, some _] [] _ 0 0
  have g0 := hX.1
  obtain ⟨sz, he, re, hS, hG⟩ := hS
  refine k_aload_n S dX7_characterOf_0 rfl ?_
  refine k_aload_n S dX7_characterOf_1 rfl ?_
  refine k_iload_n S dX7_characterOf_2 rfl ?_
  refine k_callV_x S dX7_characterOf_3 v_X7_81 (c_snAt_x D hX hS.1 hn hr hk) (by assumption) (fun h3 hp3 => ?_) rfl rfl (by decide) (by omega) (by omega) (Nat.le_of_ble_eq_true rfl)
  rw [hp3]
  exact k_out S ⟨rfl, rfl⟩ (by omega) (by omega)
/-- characterOf, none there -/
theorem c_characterOf_n (D : DD) (hX : XTop h τ A td cu lg sv ex un) (hS : XS D h τ A n fw of sc le tg pn kd on ot) (hg : ∃ cl0 sl0 : List Int, XGft h τ (A 3) cl0 sl0) (hn : n ≤ 8) (hB : BOk (n : Nat) pn kd on ot rk) (hB2 : BOk2 (n : Nat) pn kd on ot) (htd : 99 ≤ td ∧ td ≤ 9999) (hsc : ∀ s, s < n → sc s = 0 ∨ sc s = 1) (h200 : ∀ s : Nat, (s : Int) < ((n : Nat) : Int) → szF pn kd on ot 8 s ≤ 200) {x : Nat} (hx : x < n) {u : Int} (hu : inR u) (hb : ¬ (0 ≤ u ∧ u < (((lyF pn kd on ot sc td 8 x ([], [])).1).length : Nat))) : GMet D yX7_characterOf cX7_characterOf 3 (some .char) [] 27 1 6 [gR (some (A 0)), gI x, gI u] h (px eNS (fun h1 => XGft h1 τ (A 3) (lyF pn kd on ot sc td 8 x ([], [])).1 (lyF pn kd on ot sc td 8 x ([], [])).2 ∧ keeps h h1 (fun q => τ q = 4))) := by
  refine GMet.intro RX7 rfl (by decide) (gcats rfl) (Nat.le_of_ble_eq_true rfl) fun K KX S => ?_
  show K 0 [some _, some _, some _] [] _ 0 0
  have hS0 := hS
  obtain ⟨sz, he, re, hS, hG⟩ := hS
  have g0 := hX.1
  obtain ⟨gx, tx9⟩ := hS.2.1 x hx
  refine k_aload_n S dX7_characterOf_0 rfl ?_
  refine k_aload_n S dX7_characterOf_1 rfl ?_
  refine k_iload_n S dX7_characterOf_2 rfl ?_
  refine k_callV_r S dX7_characterOf_3 v_X7_81 (c_snAt_g D hX hS.1 hn hx gx) (by assumption) (fun h3 hp3 => ?_) rfl rfl (by decide) (by omega) (by omega) (Nat.le_of_ble_eq_true rfl)
  rw [hp3]
  refine k_callV_v S dX7_characterOf_6 v_X7_162 (c_gather D hX hS0 hg hn hB hB2 htd hsc h200 hx) (by assumption) (fun h6 hp6 => ?_) rfl rfl (by decide) (by omega) (by omega) (Nat.le_of_ble_eq_true rfl)
  have X6 := hX.kp hp6.2 (fun q e => by omega)
  have g06 := X6.1
  obtain ⟨rc, ac, rs, as_, hg6, hgt⟩ := id hp6.1
  obtain ⟨g1, ⟨fc, r1, r1f⟩, ⟨fs, r2, r2f⟩, ne1, ne2⟩ := hg6
  have r1a := r1.1
  have r2a := r2.1
  refine k_aload_n S dX7_characterOf_9 rfl ?_
  refine k_getf S dX7_characterOf_10 f_X7_26 (by assumption) (by rfl) ?_
  refine k_getf S dX7_characterOf_13 f_X7_166 (by assumption) (by rfl) ?_
  refine k_iload_n S dX7_characterOf_16 rfl ?_
  refine k_callV_r S dX7_characterOf_17 v_X7_169 (row_has D r1 hu) (by assumption) (fun h17 hp17 => ?_) rfl rfl (by decide) (by omega) (by omega) (Nat.le_of_ble_eq_true rfl)
  rw [hp17, b01_f hb]
  refine k_if_ne (tgt := 33) S dX7_characterOf_20 (by decide) (by omega) (fun c20 => ?_) (fun c20 => ?_)
  · omega
  · exact k_throwN S th_175_173 dX7_characterOf_23 dX7_characterOf_26 dX7_characterOf_27 dX7_characterOf_29 dX7_characterOf_32 ⟨rfl, hp6⟩ (by omega) (by omega) (by decide)
/-- characterOf -/
theorem c_characterOf_g (D : DD) (hX : XTop h τ A td cu lg sv ex un) (hS : XS D h τ A n fw of sc le tg pn kd on ot) (hg : ∃ cl0 sl0 : List Int, XGft h τ (A 3) cl0 sl0) (hn : n ≤ 8) (hB : BOk (n : Nat) pn kd on ot rk) (hB2 : BOk2 (n : Nat) pn kd on ot) (htd : 99 ≤ td ∧ td ≤ 9999) (hsc : ∀ s, s < n → sc s = 0 ∨ sc s = 1) (h200 : ∀ s : Nat, (s : Int) < ((n : Nat) : Int) → szF pn kd on ot 8 s ≤ 200) {x : Nat} (hx : x < n) {u : Int} (hu : inR u) (hb : 0 ≤ u ∧ u < (((lyF pn kd on ot sc td 8 x ([], [])).1).length : Nat)) (hc : 0 ≤ ((lyF pn kd on ot sc td 8 x ([], [])).1).getD u.toNat 0 ∧ ((lyF pn kd on ot sc td 8 x ([], [])).1).getD u.toNat 0 < 65536) : GMet D yX7_characterOf cX7_characterOf 3 (some .char) [] 27 1 6 [gR (some (A 0)), gI x, gI u] h (pr (gI (((lyF pn kd on ot sc td 8 x ([], [])).1).getD u.toNat 0)) (fun h1 => XGft h1 τ (A 3) (lyF pn kd on ot sc td 8 x ([], [])).1 (lyF pn kd on ot sc td 8 x ([], [])).2 ∧ keeps h h1 (fun q => τ q = 4))) := by
  refine GMet.intro RX7 rfl (by decide) (gcats rfl) (Nat.le_of_ble_eq_true rfl) fun K KX S => ?_
  show K 0 [some _, some _, some _] [] _ 0 0
  have hS0 := hS
  obtain ⟨sz, he, re, hS, hG⟩ := hS
  have g0 := hX.1
  obtain ⟨gx, tx9⟩ := hS.2.1 x hx
  refine k_aload_n S dX7_characterOf_0 rfl ?_
  refine k_aload_n S dX7_characterOf_1 rfl ?_
  refine k_iload_n S dX7_characterOf_2 rfl ?_
  refine k_callV_r S dX7_characterOf_3 v_X7_81 (c_snAt_g D hX hS.1 hn hx gx) (by assumption) (fun h3 hp3 => ?_) rfl rfl (by decide) (by omega) (by omega) (Nat.le_of_ble_eq_true rfl)
  rw [hp3]
  refine k_callV_v S dX7_characterOf_6 v_X7_162 (c_gather D hX hS0 hg hn hB hB2 htd hsc h200 hx) (by assumption) (fun h6 hp6 => ?_) rfl rfl (by decide) (by omega) (by omega) (Nat.le_of_ble_eq_true rfl)
  have X6 := hX.kp hp6.2 (fun q e => by omega)
  have g06 := X6.1
  obtain ⟨rc, ac, rs, as_, hg6, hgt⟩ := id hp6.1
  obtain ⟨g1, ⟨fc, r1, r1f⟩, ⟨fs, r2, r2f⟩, ne1, ne2⟩ := hg6
  have r1a := r1.1
  have r2a := r2.1
  refine k_aload_n S dX7_characterOf_9 rfl ?_
  refine k_getf S dX7_characterOf_10 f_X7_26 (by assumption) (by rfl) ?_
  refine k_getf S dX7_characterOf_13 f_X7_166 (by assumption) (by rfl) ?_
  refine k_iload_n S dX7_characterOf_16 rfl ?_
  refine k_callV_r S dX7_characterOf_17 v_X7_169 (row_has D r1 hu) (by assumption) (fun h17 hp17 => ?_) rfl rfl (by decide) (by omega) (by omega) (Nat.le_of_ble_eq_true rfl)
  rw [hp17, b01_t hb]
  refine k_if_ne (tgt := 33) S dX7_characterOf_20 (by decide) (by omega) (fun c20 => ?_) (fun c20 => ?_)
  · refine k_aload_n S dX7_characterOf_33 rfl ?_
    refine k_getf S dX7_characterOf_34 f_X7_26 (by assumption) (by rfl) ?_
    refine k_getf S dX7_characterOf_37 f_X7_166 (by assumption) (by rfl) ?_
    refine k_iload_n S dX7_characterOf_40 rfl ?_
    refine k_callV_r S dX7_characterOf_41 v_X7_178 (row_at D r1 hu) (by assumption) (fun h41 hp41 => ?_) rfl rfl (by decide) (by omega) (by omega) (Nat.le_of_ble_eq_true rfl)
    rw [hp41, if_pos hb, r1f u.toNat (by omega)]
    refine k_i2c S dX7_characterOf_44 ?_
    rw [Int.emod_eq_of_lt hc.1 hc.2]
    exact k_creturn S dX7_characterOf_45 hc ⟨rfl, hp6⟩ (by omega) (by omega)
  · omega
/-- stopOf, none there -/
theorem c_stopOf_b (D : DD) (hX : XTop h τ A td cu lg sv ex un) (hn : n ≤ 8) (hS : XS D h τ A n fw of sc le tg pn kd on ot) {k : Int} (hr : inR k) (hk : ¬ (0 ≤ k ∧ k < n)) {u : Int} : GMet D yX7_stopOf cX7_stopOf 3 (some .int) [] 27 1 6 [gR (some (A 0)), gI k, gI u] h (px "java/lang/IndexOutOfBoundsException" (fun h1 => h1 = h)) := by
  refine GMet.intro RX7 rfl (by decide) (gcats rfl) (Nat.le_of_ble_eq_true rfl) fun K KX S => ?_
  show K 0 [some _, some _, some _] [] _ 0 0
  have g0 := hX.1
  obtain ⟨sz, he, re, hS, hG⟩ := hS
  refine k_aload_n S dX7_stopOf_0 rfl ?_
  refine k_aload_n S dX7_stopOf_1 rfl ?_
  refine k_iload_n S dX7_stopOf_2 rfl ?_
  refine k_callV_x S dX7_stopOf_3 v_X7_81 (c_snAt_x D hX hS.1 hn hr hk) (by assumption) (fun h3 hp3 => ?_) rfl rfl (by decide) (by omega) (by omega) (Nat.le_of_ble_eq_true rfl)
  rw [hp3]
  exact k_out S ⟨rfl, rfl⟩ (by omega) (by omega)
/-- stopOf, none there -/
theorem c_stopOf_n (D : DD) (hX : XTop h τ A td cu lg sv ex un) (hS : XS D h τ A n fw of sc le tg pn kd on ot) (hg : ∃ cl0 sl0 : List Int, XGft h τ (A 3) cl0 sl0) (hn : n ≤ 8) (hB : BOk (n : Nat) pn kd on ot rk) (hB2 : BOk2 (n : Nat) pn kd on ot) (htd : 99 ≤ td ∧ td ≤ 9999) (hsc : ∀ s, s < n → sc s = 0 ∨ sc s = 1) (h200 : ∀ s : Nat, (s : Int) < ((n : Nat) : Int) → szF pn kd on ot 8 s ≤ 200) {x : Nat} (hx : x < n) {u : Int} (hu : inR u) (hb : ¬ (0 ≤ u ∧ u < (((lyF pn kd on ot sc td 8 x ([], [])).2).length : Nat))) : GMet D yX7_stopOf cX7_stopOf 3 (some .int) [] 27 1 6 [gR (some (A 0)), gI x, gI u] h (px eNS (fun h1 => XGft h1 τ (A 3) (lyF pn kd on ot sc td 8 x ([], [])).1 (lyF pn kd on ot sc td 8 x ([], [])).2 ∧ keeps h h1 (fun q => τ q = 4))) := by
  refine GMet.intro RX7 rfl (by decide) (gcats rfl) (Nat.le_of_ble_eq_true rfl) fun K KX S => ?_
  show K 0 [some _, some _, some _] [] _ 0 0
  have hS0 := hS
  obtain ⟨sz, he, re, hS, hG⟩ := hS
  have g0 := hX.1
  obtain ⟨gx, tx9⟩ := hS.2.1 x hx
  refine k_aload_n S dX7_stopOf_0 rfl ?_
  refine k_aload_n S dX7_stopOf_1 rfl ?_
  refine k_iload_n S dX7_stopOf_2 rfl ?_
  refine k_callV_r S dX7_stopOf_3 v_X7_81 (c_snAt_g D hX hS.1 hn hx gx) (by assumption) (fun h3 hp3 => ?_) rfl rfl (by decide) (by omega) (by omega) (Nat.le_of_ble_eq_true rfl)
  rw [hp3]
  refine k_callV_v S dX7_stopOf_6 v_X7_162 (c_gather D hX hS0 hg hn hB hB2 htd hsc h200 hx) (by assumption) (fun h6 hp6 => ?_) rfl rfl (by decide) (by omega) (by omega) (Nat.le_of_ble_eq_true rfl)
  have X6 := hX.kp hp6.2 (fun q e => by omega)
  have g06 := X6.1
  obtain ⟨rc, ac, rs, as_, hg6, hgt⟩ := id hp6.1
  obtain ⟨g1, ⟨fc, r1, r1f⟩, ⟨fs, r2, r2f⟩, ne1, ne2⟩ := hg6
  have r1a := r1.1
  have r2a := r2.1
  refine k_aload_n S dX7_stopOf_9 rfl ?_
  refine k_getf S dX7_stopOf_10 f_X7_26 (by assumption) (by rfl) ?_
  refine k_getf S dX7_stopOf_13 f_X7_182 (by assumption) (by rfl) ?_
  refine k_iload_n S dX7_stopOf_16 rfl ?_
  refine k_callV_r S dX7_stopOf_17 v_X7_169 (row_has D r2 hu) (by assumption) (fun h17 hp17 => ?_) rfl rfl (by decide) (by omega) (by omega) (Nat.le_of_ble_eq_true rfl)
  rw [hp17, b01_f hb]
  refine k_if_ne (tgt := 33) S dX7_stopOf_20 (by decide) (by omega) (fun c20 => ?_) (fun c20 => ?_)
  · omega
  · exact k_throwN S th_185_173 dX7_stopOf_23 dX7_stopOf_26 dX7_stopOf_27 dX7_stopOf_29 dX7_stopOf_32 ⟨rfl, hp6⟩ (by omega) (by omega) (by decide)
/-- stopOf -/
theorem c_stopOf_g (D : DD) (hX : XTop h τ A td cu lg sv ex un) (hS : XS D h τ A n fw of sc le tg pn kd on ot) (hg : ∃ cl0 sl0 : List Int, XGft h τ (A 3) cl0 sl0) (hn : n ≤ 8) (hB : BOk (n : Nat) pn kd on ot rk) (hB2 : BOk2 (n : Nat) pn kd on ot) (htd : 99 ≤ td ∧ td ≤ 9999) (hsc : ∀ s, s < n → sc s = 0 ∨ sc s = 1) (h200 : ∀ s : Nat, (s : Int) < ((n : Nat) : Int) → szF pn kd on ot 8 s ≤ 200) {x : Nat} (hx : x < n) {u : Int} (hu : inR u) (hb : 0 ≤ u ∧ u < (((lyF pn kd on ot sc td 8 x ([], [])).2).length : Nat)) : GMet D yX7_stopOf cX7_stopOf 3 (some .int) [] 27 1 6 [gR (some (A 0)), gI x, gI u] h (pr (gI (((lyF pn kd on ot sc td 8 x ([], [])).2).getD u.toNat 0)) (fun h1 => XGft h1 τ (A 3) (lyF pn kd on ot sc td 8 x ([], [])).1 (lyF pn kd on ot sc td 8 x ([], [])).2 ∧ keeps h h1 (fun q => τ q = 4))) := by
  refine GMet.intro RX7 rfl (by decide) (gcats rfl) (Nat.le_of_ble_eq_true rfl) fun K KX S => ?_
  show K 0 [some _, some _, some _] [] _ 0 0
  have hS0 := hS
  obtain ⟨sz, he, re, hS, hG⟩ := hS
  have g0 := hX.1
  obtain ⟨gx, tx9⟩ := hS.2.1 x hx
  refine k_aload_n S dX7_stopOf_0 rfl ?_
  refine k_aload_n S dX7_stopOf_1 rfl ?_
  refine k_iload_n S dX7_stopOf_2 rfl ?_
  refine k_callV_r S dX7_stopOf_3 v_X7_81 (c_snAt_g D hX hS.1 hn hx gx) (by assumption) (fun h3 hp3 => ?_) rfl rfl (by decide) (by omega) (by omega) (Nat.le_of_ble_eq_true rfl)
  rw [hp3]
  refine k_callV_v S dX7_stopOf_6 v_X7_162 (c_gather D hX hS0 hg hn hB hB2 htd hsc h200 hx) (by assumption) (fun h6 hp6 => ?_) rfl rfl (by decide) (by omega) (by omega) (Nat.le_of_ble_eq_true rfl)
  have X6 := hX.kp hp6.2 (fun q e => by omega)
  have g06 := X6.1
  obtain ⟨rc, ac, rs, as_, hg6, hgt⟩ := id hp6.1
  obtain ⟨g1, ⟨fc, r1, r1f⟩, ⟨fs, r2, r2f⟩, ne1, ne2⟩ := hg6
  have r1a := r1.1
  have r2a := r2.1
  refine k_aload_n S dX7_stopOf_9 rfl ?_
  refine k_getf S dX7_stopOf_10 f_X7_26 (by assumption) (by rfl) ?_
  refine k_getf S dX7_stopOf_13 f_X7_182 (by assumption) (by rfl) ?_
  refine k_iload_n S dX7_stopOf_16 rfl ?_
  refine k_callV_r S dX7_stopOf_17 v_X7_169 (row_has D r2 hu) (by assumption) (fun h17 hp17 => ?_) rfl rfl (by decide) (by omega) (by omega) (Nat.le_of_ble_eq_true rfl)
  rw [hp17, b01_t hb]
  refine k_if_ne (tgt := 33) S dX7_stopOf_20 (by decide) (by omega) (fun c20 => ?_) (fun c20 => ?_)
  · refine k_aload_n S dX7_stopOf_33 rfl ?_
    refine k_getf S dX7_stopOf_34 f_X7_26 (by assumption) (by rfl) ?_
    refine k_getf S dX7_stopOf_37 f_X7_182 (by assumption) (by rfl) ?_
    refine k_iload_n S dX7_stopOf_40 rfl ?_
    refine k_callV_r S dX7_stopOf_41 v_X7_178 (row_at D r2 hu) (by assumption) (fun h41 hp41 => ?_) rfl rfl (by decide) (by omega) (by omega) (Nat.le_of_ble_eq_true rfl)
    rw [hp41, if_pos hb, r2f u.toNat (by omega)]
    exact k_ireturn S dX7_stopOf_44 ⟨rfl, hp6⟩ (by omega) (by omega)
  · omega
end
