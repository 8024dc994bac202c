theorem bAnd63 (x : Int) : 0 ≤ bAnd x 63 ∧ bAnd x 63 ≤ 63 := by
  unfold bAnd
  generalize Int32.ofInt x = a
  have h1 : (a.toBitVec &&& (Int32.ofInt 63).toBitVec).toNat ≤ 63 := by
    rw [BitVec.toNat_and]
    exact Nat.and_le_right
  show 0 ≤ (a &&& Int32.ofInt 63).toBitVec.toInt ∧ (a &&& Int32.ofInt 63).toBitVec.toInt ≤ 63
  rw [Int32.toBitVec_and, BitVec.toInt_eq_toNat_cond]
  split <;> omega
theorem LI.up {D : DD} {x mo out od B : Nat} {h : GH} (hI : LI D x mo out od B h) : LI D x mo out od (B + 1) h := by
  obtain ⟨τ, A, am, n, nl, c, m, wl, wc, wm, td, ex, kp, la, sv, cu, th, ld, ls, tg, kd, tx, wa, ou, le, pn, on, ot, sp, wp, op, fw, of, sc, hA, hX, hM, hT, q1, q2, q3, q4, q5, hou⟩ := hI
  exact ⟨τ, A, am, n, nl, c, m, wl, wc, wm, td, ex, kp, la, sv, cu, th, ld, ls, tg, kd, tx, wa, ou, le, pn, on, ot, sp, wp, op, fw, of, sc, hA, hX, hM, hT, q1, q2, q3, q4, q5.up, hou⟩
section
variable {K : Nat → List (Option GV) → List GV → GH → Nat → Nat → Prop} {KX : Nat → List (Option GV) → GH → Nat → Nat → String → Prop} {D : DD} {mc ms b0 L : Nat} {X9 : Int → Int}
/-- one call, by its number -/
theorem law_call (S : LWk K KX D mc ms b0 L X9) {i : Nat} (hi : (i : Int) + 4 ≤ L) {x mo out od B a b : Nat} {h : GH} (hI : LI D x mo out od B h) (hB : B < 512) (ha : a + 8 ≤ mc) (hb : b + 6000 ≤ ms) (kk : LGo K D b0 x mo out od i B a b) {l6 l7 : Option GV} : K 44 [some (gR (some b0)), some (gR (some x)), some (gR (some mo)), some (gR (some out)), some (gR (some od)), some (gI i), l6, l7] [gI (bAnd (X9 ((i : Nat) : Int)) 63)] h a b := by
  have v1 := bAnd63 (X9 ((i : Nat) : Int))
  generalize bAnd (X9 ((i : Nat) : Int)) 63 = v at v1
  by_cases hv : v ≤ 34
  · rcases (show v = 0 ∨ v = 1 ∨ v = 2 ∨ v = 3 ∨ v = 4 ∨ v = 5 ∨ v = 6 ∨ v = 7 ∨ v = 8 ∨ v = 9 ∨ v = 10 ∨ v = 11 ∨ v = 12 ∨ v = 13 ∨ v = 14 ∨ v = 15 ∨ v = 16 ∨ v = 17 ∨ v = 18 ∨ v = 19 ∨ v = 20 ∨ v = 21 ∨ v = 22 ∨ v = 23 ∨ v = 24 ∨ v = 25 ∨ v = 26 ∨ v = 27 ∨ v = 28 ∨ v = 29 ∨ v = 30 ∨ v = 31 ∨ v = 32 ∨ v = 33 ∨ v = 34 by omega) with e | e | e | e | e | e | e | e | e | e | e | e | e | e | e | e | e | e | e | e | e | e | e | e | e | e | e | e | e | e | e | e | e | e | e
    · rw [e]
      exact k_tblIn S.1 dL_law_44 (off := 156) (tgt := 200) (by omega) (by omega) (by omega) (by rfl) (by omega) (q_addSnippet S hi hI hB ha hb kk)
    · rw [e]
      exact k_tblIn S.1 dL_law_44 (off := 228) (tgt := 272) (by omega) (by omega) (by omega) (by rfl) (by omega) (q_addToTrigger S hi hI hB ha hb kk)
    · rw [e]
      exact k_tblIn S.1 dL_law_44 (off := 298) (tgt := 342) (by omega) (by omega) (by omega) (by rfl) (by omega) (q_clearTrigger S hi hI hB ha hb kk)
    · rw [e]
      exact k_tblIn S.1 dL_law_44 (off := 354) (tgt := 398) (by omega) (by omega) (by omega) (by rfl) (by omega) (q_setOn S hi hI hB ha hb kk)
    · rw [e]
      exact k_tblIn S.1 dL_law_44 (off := 445) (tgt := 489) (by omega) (by omega) (by omega) (by rfl) (by omega) (q_putCharacter S hi hI hB ha hb kk)
    · rw [e]
      exact k_tblIn S.1 dL_law_44 (off := 515) (tgt := 559) (by omega) (by omega) (by omega) (by rfl) (by omega) (q_putSnippet S hi hI hB ha hb kk)
    · rw [e]
      exact k_tblIn S.1 dL_law_44 (off := 583) (tgt := 627) (by omega) (by omega) (by omega) (by rfl) (by omega) (q_putChoice S hi hI hB ha hb kk)
    · rw [e]
      exact k_tblIn S.1 dL_law_44 (off := 663) (tgt := 707) (by omega) (by omega) (by omega) (by rfl) (by omega) (q_putDate S hi hI hB ha hb kk)
    · rw [e]
      exact k_tblIn S.1 dL_law_44 (off := 745) (tgt := 789) (by omega) (by omega) (by omega) (by rfl) (by omega) (q_putStop S hi hI hB ha hb kk)
    · rw [e]
      exact k_tblIn S.1 dL_law_44 (off := 801) (tgt := 845) (by omega) (by omega) (by omega) (by rfl) (by omega) (q_clearBody S hi hI hB ha hb kk)
    · rw [e]
      exact k_tblIn S.1 dL_law_44 (off := 857) (tgt := 901) (by omega) (by omega) (by omega) (by rfl) (by omega) (q_choose S hi hI hB ha hb kk)
    · rw [e]
      exact k_tblIn S.1 dL_law_44 (off := 948) (tgt := 992) (by omega) (by omega) (by omega) (by rfl) (by omega) (q_setToday S hi hI hB ha hb kk)
    · rw [e]
      exact k_tblIn S.1 dL_law_44 (off := 1004) (tgt := 1048) (by omega) (by omega) (by omega) (by rfl) (by omega) (q_lengthOf S hi hI hB ha hb kk)
    · rw [e]
      exact k_tblIn S.1 dL_law_44 (off := 1060) (tgt := 1104) (by omega) (by omega) (by omega) (by rfl) (by omega) (q_characterOf S hi hI hB ha hb kk)
    · rw [e]
      exact k_tblIn S.1 dL_law_44 (off := 1128) (tgt := 1172) (by omega) (by omega) (by omega) (by rfl) (by omega) (q_stopsOf S hi hI hB ha hb kk)
    · rw [e]
      exact k_tblIn S.1 dL_law_44 (off := 1184) (tgt := 1228) (by omega) (by omega) (by omega) (by rfl) (by omega) (q_stopOf S hi hI hB ha hb kk)
    · rw [e]
      exact k_tblIn S.1 dL_law_44 (off := 1252) (tgt := 1296) (by omega) (by omega) (by omega) (by rfl) (by omega) (q_comesTo S hi hI hB ha hb kk)
    · rw [e]
      exact k_tblIn S.1 dL_law_44 (off := 1327) (tgt := 1371) (by omega) (by omega) (by omega) (by rfl) (by omega) (q_depth S hi hI hB ha hb kk)
    · rw [e]
      exact k_tblIn S.1 dL_law_44 (off := 1383) (tgt := 1427) (by omega) (by omega) (by omega) (by rfl) (by omega) (q_isShadowedBy S hi hI hB ha hb kk)
    · rw [e]
      exact k_tblIn S.1 dL_law_44 (off := 1458) (tgt := 1502) (by omega) (by omega) (by omega) (by rfl) (by omega) (q_shadower S hi hI hB ha hb kk)
    · rw [e]
      exact k_tblIn S.1 dL_law_44 (off := 1514) (tgt := 1558) (by omega) (by omega) (by omega) (by rfl) (by omega) (q_clashes S hi hI hB ha hb kk)
    · rw [e]
      exact k_tblIn S.1 dL_law_44 (off := 1527) (tgt := 1571) (by omega) (by omega) (by omega) (by rfl) (by omega) (q_key S hi hI hB ha hb kk)
    · rw [e]
      exact k_tblIn S.1 dL_law_44 (off := 1585) (tgt := 1629) (by omega) (by omega) (by omega) (by rfl) (by omega) (q_erase S hi hI hB ha hb kk)
    · rw [e]
      exact k_tblIn S.1 dL_law_44 (off := 1629) (tgt := 1673) (by omega) (by omega) (by omega) (by rfl) (by omega) (q_moveCaret S hi hI hB ha hb kk)
    · rw [e]
      exact k_tblIn S.1 dL_law_44 (off := 1685) (tgt := 1729) (by omega) (by omega) (by omega) (by rfl) (by omega) (q_nextStop S hi hI hB ha hb kk)
    · rw [e]
      exact k_tblIn S.1 dL_law_44 (off := 1729) (tgt := 1773) (by omega) (by omega) (by omega) (by rfl) (by omega) (q_undo S hi hI hB ha hb kk)
    · rw [e]
      exact k_tblIn S.1 dL_law_44 (off := 1773) (tgt := 1817) (by omega) (by omega) (by omega) (by rfl) (by omega) (q_length S hi hI hB ha hb kk)
    · rw [e]
      exact k_tblIn S.1 dL_law_44 (off := 1786) (tgt := 1830) (by omega) (by omega) (by omega) (by rfl) (by omega) (q_characterAt S hi hI hB ha hb kk)
    · rw [e]
      exact k_tblIn S.1 dL_law_44 (off := 1842) (tgt := 1886) (by omega) (by omega) (by omega) (by rfl) (by omega) (q_caret S hi hI hB ha hb kk)
    · rw [e]
      exact k_tblIn S.1 dL_law_44 (off := 1855) (tgt := 1899) (by omega) (by omega) (by omega) (by rfl) (by omega) (q_stops S hi hI hB ha hb kk)
    · rw [e]
      exact k_tblIn S.1 dL_law_44 (off := 1868) (tgt := 1912) (by omega) (by omega) (by omega) (by rfl) (by omega) (q_stopAt S hi hI hB ha hb kk)
    · rw [e]
      exact k_tblIn S.1 dL_law_44 (off := 1924) (tgt := 1968) (by omega) (by omega) (by omega) (by rfl) (by omega) (q_matching S hi hI hB ha hb kk)
    · rw [e]
      exact k_tblIn S.1 dL_law_44 (off := 1937) (tgt := 1981) (by omega) (by omega) (by omega) (by rfl) (by omega) (q_matchingByLooking S hi hI hB ha hb kk)
    · rw [e]
      exact k_tblIn S.1 dL_law_44 (off := 1950) (tgt := 1994) (by omega) (by omega) (by omega) (by rfl) (by omega) (q_saved S hi hI hB ha hb kk)
    · rw [e]
      exact k_tblIn S.1 dL_law_44 (off := 1964) (tgt := 2008) (by omega) (by omega) (by omega) (by rfl) (by omega) (q_keptShare S hi hI hB ha hb kk)
  · exact k_tblOut S.1 dL_law_44 (tgt := 2074) (by omega) (by omega) (by omega) (kk h _ _ a b hI.up (by omega) (by omega))
/-- the loop -/
theorem law_loop (S : LWk K KX D mc ms b0 L X9) (hL : L ≤ 2048) (hmc : 10000 ≤ mc) (hms : 4000000 ≤ ms) (HE : ∀ (ls : List (Option GV)) (h : GH) (a b : Nat), a ≤ mc → b ≤ ms → K 2080 ls [] h a b) {x mo out od : Nat} : ∀ (d B i a b : Nat) (h : GH) (l6 l7 : Option GV), B + d = 513 → i = 4 * B → LI D x mo out od B h → a ≤ 100 + 8 * B → b ≤ 100000 + 6000 * B → K 28 [some (gR (some b0)), some (gR (some x)), some (gR (some mo)), some (gR (some out)), some (gR (some od)), some (gI i), l6, l7] [] h a b := by
  intro d
  induction d with
  | zero =>
    intro B i a b h l6 l7 hd hi hI ha hb
    refine k_iload S.1 dL_law_28 rfl ?_
    refine k_aload_n S.1 dL_law_30 rfl ?_
    refine S.2.2.1 dL_law_31 ?_
    refine k_iconst S.1 dL_law_32 ?_
    refine k_isub S.1 dL_law_33 ?_
    refine k_icmp_gt (tgt := 2080) S.1 dL_law_34 (by decide) (by omega) (by omega) (fun c34 => ?_) (fun c34 => ?_)
    · exact HE _ _ _ _ (by omega) (by omega)
    · omega
  | succ d ih =>
    intro B i a b h l6 l7 hd hi hI ha hb
    refine k_iload S.1 dL_law_28 rfl ?_
    refine k_aload_n S.1 dL_law_30 rfl ?_
    refine S.2.2.1 dL_law_31 ?_
    refine k_iconst S.1 dL_law_32 ?_
    refine k_isub S.1 dL_law_33 ?_
    refine k_icmp_gt (tgt := 2080) S.1 dL_law_34 (by decide) (by omega) (by omega) (fun c34 => ?_) (fun c34 => ?_)
    · exact HE _ _ _ _ (by omega) (by omega)
    · refine k_aload_n S.1 dL_law_37 rfl ?_
      refine k_iload S.1 dL_law_38 rfl ?_
      refine S.2.1 dL_law_40 (by omega) ?_
      refine k_bipush S.1 dL_law_41 ?_
      refine k_iand S.1 dL_law_43 ?_
      refine law_call S (by omega) hI (by omega) (by omega) (by omega) (fun h2 l6 l7 a2 b2 hI2 ha2 hb2 => ?_)
      refine k_iinc S.1 dL_law_2074 rfl (by decide) ?_
      rw [show ((i : Nat) : Int) + 4 = ((i + 4 : Nat) : Int) by omega]
      refine k_goto (tgt := 28) S.1 dL_law_2077 (by decide) ?_
      show K 28 [some (gR (some b0)), some (gR (some x)), some (gR (some mo)), some (gR (some out)), some (gR (some od)), some (gI ((i + 4 : Nat) : Int)), l6, l7] [] h2 a2 b2
      have e1 : a2 ≤ 100 + 8 * (B + 1) := Nat.le_trans ha2 (Nat.le_trans (Nat.add_le_add_right ha 8) (by rw [Nat.mul_add, Nat.mul_one, Nat.add_assoc]; exact Nat.le_refl _))
      have e2 : b2 ≤ 100000 + 6000 * (B + 1) := Nat.le_trans hb2 (Nat.le_trans (Nat.add_le_add_right hb 6000) (by rw [Nat.mul_add, Nat.mul_one, Nat.add_assoc]; exact Nat.le_refl _))
      exact ih (B + 1) (i + 4) a2 b2 h2 l6 l7 (by omega) (by omega) hI2 e1 e2
/-- the law from its beginning -/
theorem law_start (S : LWk K KX D mc ms b0 L X9) (hL : L ≤ 2048) (hmc : 10000 ≤ mc) (hms : 4000000 ≤ ms) (HE : ∀ (ls : List (Option GV)) (h : GH) (a b : Nat), a ≤ mc → b ≤ ms → K 2080 ls [] h a b) : K 0 [some (gR (some b0)), none, none, none, none, none, none, none] [] (fun _ => none) 0 0 := by
  refine k_new S.1 dL_law_0 n_L_8 (by omega) (by omega) (fun q0 n0 l0 => ?_)
  refine k_dup S.1 dL_law_3 ?_
  refine k_callI_v S.1 dL_law_4 i_L_117 (c_init D (hput_s _ _ _)) (fun h4 hp4 => ?_) rfl rfl (by decide) (by omega) (by omega) (Nat.le_of_ble_eq_true rfl)
  obtain ⟨τ, A, a0, tp, xs, tr, gf, t4, t5, -, tz⟩ := hp4
  have x4 : XA D h4 τ A 0 99 0 0 0 0 0 0 0 0 0 0 0 (fun _ => (0 : Int)) (fun _ => (0 : Int)) (fun _ => (0 : Int)) (fun _ => (0 : Int)) (fun _ => (0 : Int)) (fun _ => (0 : Int)) (fun _ => (0 : Int)) (fun _ => (0 : Int)) (fun _ => (0 : Int)) (fun _ => (0 : Int)) (fun _ => (0 : Int)) (fun _ => (0 : Int)) (fun _ => (0 : Int)) := ⟨tp, xs, tr, gf, t4, t5⟩
  have pa0 := tp.1
  refine k_astore_n S.1 dL_law_7 (by decide) ?_
  refine k_new S.1 dL_law_8 n_L_118 (by omega) (by omega) (fun q8 n8 l8 => ?_)
  refine k_dup S.1 dL_law_11 ?_
  refine k_callI_v S.1 dL_law_12 i_L_120 (m_init D (hput_s _ _ _)) (fun h12 hp12 => ?_) rfl rfl (by decide) (by omega) (by omega) (Nat.le_of_ble_eq_true rfl)
  obtain ⟨am, im, iz, ik⟩ := hp12
  have k12 : keeps h4 h12 (fun _ => False) := keeps.fr n8 ik
  refine k_astore_n S.1 dL_law_15 (by decide) ?_
  refine k_iconst S.1 dL_law_16 ?_
  refine k_newa_l S.1 dL_law_17 (by omega) ac_long (by omega) (by omega) (fun q17 n17 l17 => ?_)
  generalize e17 : hput h12 q17 _ = h17
  have k17 : keeps h12 h17 (fun _ => False) := by rw [← e17]; exact keeps.put (Or.inr n17)
  have o17 : h17 q17 = some (gArrL 3 1 (fun _ => 0)) := by rw [← e17]; exact hput_s _ _ _
  refine k_astore_n S.1 dL_law_19 (by decide) ?_
  refine k_iconst S.1 dL_law_20 ?_
  refine k_newa_d S.1 dL_law_21 (by omega) ac_double (by omega) (by omega) (fun q21 n21 l21 => ?_)
  generalize e21 : hput h17 q21 _ = h21
  have k21 : keeps h17 h21 (fun _ => False) := by rw [← e21]; exact keeps.put (Or.inr n21)
  have o21 : h21 q21 = some (gArrD 4 1 (fun _ => 0)) := by rw [← e21]; exact hput_s _ _ _
  refine k_astore S.1 dL_law_23 (by decide) ?_
  refine k_iconst S.1 dL_law_25 ?_
  refine k_istore S.1 dL_law_26 (by decide) ?_
  have k4 : keeps h4 h21 (fun _ => False) := (k12.tr k17).tr k21
  have p17 : h4 q17 = none := keeps.no k12 n17 id
  have p21 : h4 q21 = none := keeps.no (k12.tr k17) n21 id
  have pm : ∀ q, mP q8 am q → h4 q = none ∧ q ≠ q17 ∧ q ≠ q21 := fun q hq => by
    obtain ⟨g, hg⟩ := im.som rfl q hq
    have hg2 := k17 _ _ hg id
    refine ⟨?_, fun e => (by rw [e, n17] at hg; cases hg), fun e => (by rw [e, n21] at hg2; cases hg2)⟩
    rcases hq with rfl | ⟨j, hj, rfl⟩
    · exact n8
    · exact (hput_no (iz j hj)).1
  obtain ⟨τ2, s1, s2, s3⟩ : ∃ τ2 : Nat → Nat, rtg h4 τ τ2 ∧ (∀ q, mP q8 am q → τ2 q = 50) ∧ τ2 q17 = 60 ∧ τ2 q21 = 60 := by
    classical
    refine ⟨fun z => if h4 z = none then (if z = q17 ∨ z = q21 then 60 else 50) else τ z, fun z g hz => if_neg (by rw [hz]; exact fun h => nomatch h), fun q hq => ?_, ?_, ?_⟩
    · obtain ⟨w1, w2, w3⟩ := pm q hq
      exact (if_pos w1).trans (if_neg (fun z => z.elim w2 w3))
    · exact (if_pos p17).trans (if_pos (Or.inl rfl))
    · exact (if_pos p21).trans (if_pos (Or.inr rfl))
  have xa : XA D h21 τ2 A 0 99 0 0 0 0 0 0 0 0 0 0 0 (fun _ => (0 : Int)) (fun _ => (0 : Int)) (fun _ => (0 : Int)) (fun _ => (0 : Int)) (fun _ => (0 : Int)) (fun _ => (0 : Int)) (fun _ => (0 : Int)) (fun _ => (0 : Int)) (fun _ => (0 : Int)) (fun _ => (0 : Int)) (fun _ => (0 : Int)) (fun _ => (0 : Int)) (fun _ => (0 : Int)) := by
    obtain ⟨e1, e2, e3, ⟨cl, sl, e4⟩, e5, e6⟩ := x4
    exact ⟨e1.mv k4 (fun _ _ z => z) s1 (fun _ _ => rfl), e2.mv k4 (fun _ _ z => z) s1 ⟨rfl, fun _ _ => ⟨rfl, rfl, rfl⟩⟩, e3.mv k4 (fun _ _ _ z => z) s1, ⟨cl, sl, e4.mv k4 (fun _ _ z => z) s1⟩, e5.mv k4 (fun _ _ z => z) s1, e6.mv k4 (fun _ _ z => z) s1⟩
  have im := (im.kp (k17.tr k21) (fun _ _ z => z))
  have lt : LT h21 τ2 q8 am q17 q21 := ⟨s2, s3.1, s3.2, ⟨_, k21 _ _ o17 id⟩, ⟨_, o21⟩⟩
  have m1 : M1 0 (fun _ => (0 : Int)) (fun _ => (0 : Int)) (fun _ => (0 : Int)) (fun _ => (0 : Int)) (fun _ => (0 : Int)) (fun _ => (0 : Int)) := ⟨by omega, fun s hs => by omega, fun q => by show (0 : Int) ≤ 0 ∧ (0 : Int) < 65536; omega, fun s hs => by omega, fun k _ => ⟨rfl, rfl, rfl, rfl⟩⟩
  have m2 : M2 0 (fun _ => (0 : Int)) (fun _ => (0 : Int)) (fun _ => (0 : Int)) (fun _ => (0 : Int)) := ⟨fun q => by show (0 : Int) ≤ 0 ∧ (0 : Int) < 65536; omega, ⟨fun _ => 0, fun s hs => by omega, fun _ => by show (0 : Nat) < 8; omega⟩, fun s hs => by omega, fun s hs => by omega⟩
  have m3 : M3 0 0 0 (fun _ => (0 : Int)) (fun _ => (0 : Int)) := ⟨fun q => by show (0 : Int) ≤ 0 ∧ (0 : Int) < 65536; omega, by omega, by omega, by omega, fun q hq => by omega⟩
  have m5 : M5 0 99 0 0 0 0 0 := by unfold M5; omega
  exact law_loop S hL hmc hms HE 513 0 0 _ _ h21 none none (by omega) (by omega) ⟨τ2, A, am, 0, 0, 0, 0, 0, 0, 0, 99, 0, 0, 0, 0, 0, 0, 0, 0, (fun _ => (0 : Int)), (fun _ => (0 : Int)), (fun _ => (0 : Int)), (fun _ => (0 : Int)), (fun _ => (0 : Int)), (fun _ => (0 : Int)), (fun _ => (0 : Int)), (fun _ => (0 : Int)), (fun _ => (0 : Int)), (fun _ => (0 : Int)), (fun _ => (0 : Int)), (fun _ => (0 : Int)), (fun _ => (0 : Int)), (fun _ => (0 : Int)), (fun _ => (0 : Int)), a0, xa, im, lt, m1, m2, m3, m3, m5, fun _ => by show (0 : Int) ≤ 0 ∧ (0 : Int) < 65536; omega⟩ (by omega) (by omega)
end
