/-! posts, and the calls that go with them -/
section POSTS
theorem gcats {args : List GV} (h : args.map gcat = List.replicate args.length 1) : ∀ v ∈ args, gcat v = 1 := by
  intro v hv
  have h1 : gcat v ∈ args.map gcat := List.mem_map.mpr ⟨v, hv, rfl⟩
  rw [h] at h1
  exact List.eq_of_mem_replicate h1
abbrev pv (P : GH → Prop) : GO → GH → Prop := fun o h => o = .inl none ∧ P h
abbrev pr (v : GV) (P : GH → Prop) : GO → GH → Prop := fun o h => o = .inl (some v) ∧ P h
abbrev px (E : String) (P : GH → Prop) : GO → GH → Prop := fun o h => o = .inr E ∧ P h
/-- an answer that is an address -/
abbrev pq (P : Nat → GH → Prop) : GO → GH → Prop := fun o h => ∃ q : Nat, o = .inl (some (gR (some q))) ∧ P q h
/-- the truth of a proposition as the machine has it -/
noncomputable def b01 (p : Prop) : Int := by
  classical
  exact if p then 1 else 0
theorem b01_t {p : Prop} (h : p) : b01 p = 1 := if_pos h
theorem b01_f {p : Prop} (h : ¬ p) : b01 p = 0 := if_neg h
theorem b01_2 (p : Prop) : b01 p = 0 ∨ b01 p = 1 := by
  by_cases h : p
  · exact Or.inr (b01_t h)
  · exact Or.inl (b01_f h)
theorem b01_r (p : Prop) : -2147483648 ≤ b01 p ∧ b01 p < 2147483648 := by rcases b01_2 p with h | h <;> rw [h] <;> omega
theorem b01_0 {p : Prop} : b01 p = 0 ↔ ¬ p := by
  by_cases h : p
  · rw [b01_t h]; exact ⟨fun z => absurd z (by omega), fun z => absurd h z⟩
  · rw [b01_f h]; exact ⟨fun _ => h, fun _ => rfl⟩
theorem b01_1 {p : Prop} : b01 p = 1 ↔ p := by
  by_cases h : p
  · rw [b01_t h]; exact ⟨fun _ => h, fun _ => rfl⟩
  · rw [b01_f h]; exact ⟨fun z => absurd z (by omega), fun z => absurd z h⟩
theorem b01_n {p : Prop} : ¬ b01 p = 0 ↔ p := by rw [b01_0]; exact Classical.not_not
theorem b01_c {p q : Prop} (h : p ↔ q) : b01 p = b01 q := by rw [propext h]
abbrev inR (x : Int) : Prop := -2147483648 ≤ x ∧ x < 2147483648
variable {K : Nat → List (Option GV) → List GV → GH → Nat → Nat → Prop} {KX : Nat → List (Option GV) → GH → Nat → Nat → String → Prop} {D : DD} {own mn : String} {cc : ByteArray} {nL dep mc ms : Nat} {hh : List (Nat × Nat × Nat × Nat)} {rp : Option (Option FieldType × (GO → GH → Prop))} {pc : Nat} {ls : List (Option GV)} {st : List GV} {h : GH} {a b : Nat}
theorem k_callV_r (S : Mach K KX D own mn cc nL dep mc ms hh rp) {idx n dep1 mc1 ms1 maxL : Nat} {y : MethodName} {bytes : ByteArray} {ci q : Nat} {ret : Option FieldType} {fs : List GV} {As stk : List GV} {v : GV} {P : GH → Prop} (d : decode cc pc = .ok (.invokevirtual idx, 3)) (hw : CV own idx ci y bytes maxL ret n) (M : GMet D y bytes maxL ret [] dep1 mc1 ms1 (gR (some q) :: As) h (pr v P)) (hh9 : h q = some (gObj ci fs)) (kk : ∀ h1 : GH, P h1 → K (pc + 3) ls (v :: st) h1 (a + mc1) (b + ms1)) (hsk : stk = As.reverse ++ gR (some q) :: st) (hn : As.length = n) (hd9 : dep1 < dep) (hc : a + mc1 ≤ mc) (hs : b + ms1 ≤ ms) (hs9 : (st.map gcat).sum ≤ 8) : K pc ls stk h a b :=
  k_callV S d hw M hh9 (fun r h1 hp => by cases hp.1; exact kk h1 hp.2) (fun E h1 hp => by cases hp.1) hsk hn hd9 hc hs hs9
theorem k_callV_v (S : Mach K KX D own mn cc nL dep mc ms hh rp) {idx n dep1 mc1 ms1 maxL : Nat} {y : MethodName} {bytes : ByteArray} {ci q : Nat} {ret : Option FieldType} {fs : List GV} {As stk : List GV} {P : GH → Prop} (d : decode cc pc = .ok (.invokevirtual idx, 3)) (hw : CV own idx ci y bytes maxL ret n) (M : GMet D y bytes maxL ret [] dep1 mc1 ms1 (gR (some q) :: As) h (pv P)) (hh9 : h q = some (gObj ci fs)) (kk : ∀ h1 : GH, P h1 → K (pc + 3) ls st h1 (a + mc1) (b + ms1)) (hsk : stk = As.reverse ++ gR (some q) :: st) (hn : As.length = n) (hd9 : dep1 < dep) (hc : a + mc1 ≤ mc) (hs : b + ms1 ≤ ms) (hs9 : (st.map gcat).sum ≤ 8) : K pc ls stk h a b :=
  k_callV S d hw M hh9 (fun r h1 hp => by cases hp.1; exact kk h1 hp.2) (fun E h1 hp => by cases hp.1) hsk hn hd9 hc hs hs9
theorem k_callV_x (S : Mach K KX D own mn cc nL dep mc ms hh rp) {idx n dep1 mc1 ms1 maxL : Nat} {y : MethodName} {bytes : ByteArray} {ci q : Nat} {ret : Option FieldType} {fs : List GV} {As stk : List GV} {X9 : String} {P : GH → Prop} (d : decode cc pc = .ok (.invokevirtual idx, 3)) (hw : CV own idx ci y bytes maxL ret n) (M : GMet D y bytes maxL ret [] dep1 mc1 ms1 (gR (some q) :: As) h (px X9 P)) (hh9 : h q = some (gObj ci fs)) (kk : ∀ h1 : GH, P h1 → KX pc ls h1 (a + mc1) (b + ms1) X9) (hsk : stk = As.reverse ++ gR (some q) :: st) (hn : As.length = n) (hd9 : dep1 < dep) (hc : a + mc1 ≤ mc) (hs : b + ms1 ≤ ms) (hs9 : (st.map gcat).sum ≤ 8) : K pc ls stk h a b :=
  k_callV S d hw M hh9 (fun r h1 hp => by cases hp.1) (fun E h1 hp => by cases hp.1; exact kk h1 hp.2) hsk hn hd9 hc hs hs9
theorem k_callS_r (S : Mach K KX D own mn cc nL dep mc ms hh rp) {idx n dep1 mc1 ms1 maxL : Nat} {y : MethodName} {bytes : ByteArray} {ret : Option FieldType} {hh1 : List (Nat × Nat × Nat × Nat)} {As stk : List GV} {v : GV} {P : GH → Prop} (d : decode cc pc = .ok (.invokestatic idx, 3)) (hw : CSt own idx y bytes maxL ret hh1 n) (M : GMet D y bytes maxL ret hh1 dep1 mc1 ms1 As h (pr v P)) (kk : ∀ h1 : GH, P h1 → K (pc + 3) ls (v :: st) h1 (a + mc1) (b + ms1)) (hsk : stk = As.reverse ++  st) (hn : As.length = n) (hd9 : dep1 < dep) (hc : a + mc1 ≤ mc) (hs : b + ms1 ≤ ms) (hs9 : (st.map gcat).sum ≤ 8) : K pc ls stk h a b :=
  k_callS (fs := []) S d hw M (fun r h1 hp => by cases hp.1; exact kk h1 hp.2) (fun E h1 hp => by cases hp.1) hsk hn hd9 hc hs hs9
theorem k_callS_v (S : Mach K KX D own mn cc nL dep mc ms hh rp) {idx n dep1 mc1 ms1 maxL : Nat} {y : MethodName} {bytes : ByteArray} {ret : Option FieldType} {hh1 : List (Nat × Nat × Nat × Nat)} {As stk : List GV} {P : GH → Prop} (d : decode cc pc = .ok (.invokestatic idx, 3)) (hw : CSt own idx y bytes maxL ret hh1 n) (M : GMet D y bytes maxL ret hh1 dep1 mc1 ms1 As h (pv P)) (kk : ∀ h1 : GH, P h1 → K (pc + 3) ls st h1 (a + mc1) (b + ms1)) (hsk : stk = As.reverse ++  st) (hn : As.length = n) (hd9 : dep1 < dep) (hc : a + mc1 ≤ mc) (hs : b + ms1 ≤ ms) (hs9 : (st.map gcat).sum ≤ 8) : K pc ls stk h a b :=
  k_callS (fs := []) S d hw M (fun r h1 hp => by cases hp.1; exact kk h1 hp.2) (fun E h1 hp => by cases hp.1) hsk hn hd9 hc hs hs9
theorem k_callS_x (S : Mach K KX D own mn cc nL dep mc ms hh rp) {idx n dep1 mc1 ms1 maxL : Nat} {y : MethodName} {bytes : ByteArray} {ret : Option FieldType} {hh1 : List (Nat × Nat × Nat × Nat)} {As stk : List GV} {X9 : String} {P : GH → Prop} (d : decode cc pc = .ok (.invokestatic idx, 3)) (hw : CSt own idx y bytes maxL ret hh1 n) (M : GMet D y bytes maxL ret hh1 dep1 mc1 ms1 As h (px X9 P)) (kk : ∀ h1 : GH, P h1 → KX pc ls h1 (a + mc1) (b + ms1) X9) (hsk : stk = As.reverse ++  st) (hn : As.length = n) (hd9 : dep1 < dep) (hc : a + mc1 ≤ mc) (hs : b + ms1 ≤ ms) (hs9 : (st.map gcat).sum ≤ 8) : K pc ls stk h a b :=
  k_callS (fs := []) S d hw M (fun r h1 hp => by cases hp.1) (fun E h1 hp => by cases hp.1; exact kk h1 hp.2) hsk hn hd9 hc hs hs9
theorem k_callI_v (S : Mach K KX D own mn cc nL dep mc ms hh rp) {idx n dep1 mc1 ms1 maxL : Nat} {y : MethodName} {bytes : ByteArray} {q : Nat} {As stk : List GV} {P : GH → Prop} (d : decode cc pc = .ok (.invokespecial idx, 3)) (hw : CI own idx y bytes maxL n) (M : GMet D y bytes maxL none [] dep1 mc1 ms1 (gR (some q) :: As) h (pv P)) (kk : ∀ h1 : GH, P h1 → K (pc + 3) ls st h1 (a + mc1) (b + ms1)) (hsk : stk = As.reverse ++ gR (some q) :: st) (hn : As.length = n) (hd9 : dep1 < dep) (hc : a + mc1 ≤ mc) (hs : b + ms1 ≤ ms) (hs9 : (st.map gcat).sum ≤ 8) : K pc ls stk h a b :=
  k_callI (fs := []) S d hw M (fun r h1 hp => by cases hp.1; exact kk h1 hp.2) (fun E h1 hp => by cases hp.1) hsk hn hd9 hc hs hs9
theorem k_callI_x (S : Mach K KX D own mn cc nL dep mc ms hh rp) {idx n dep1 mc1 ms1 maxL : Nat} {y : MethodName} {bytes : ByteArray} {q : Nat} {As stk : List GV} {X9 : String} {P : GH → Prop} (d : decode cc pc = .ok (.invokespecial idx, 3)) (hw : CI own idx y bytes maxL n) (M : GMet D y bytes maxL none [] dep1 mc1 ms1 (gR (some q) :: As) h (px X9 P)) (kk : ∀ h1 : GH, P h1 → KX pc ls h1 (a + mc1) (b + ms1) X9) (hsk : stk = As.reverse ++ gR (some q) :: st) (hn : As.length = n) (hd9 : dep1 < dep) (hc : a + mc1 ≤ mc) (hs : b + ms1 ≤ ms) (hs9 : (st.map gcat).sum ≤ 8) : K pc ls stk h a b :=
  k_callI (fs := []) S d hw M (fun r h1 hp => by cases hp.1) (fun E h1 hp => by cases hp.1; exact kk h1 hp.2) hsk hn hd9 hc hs hs9
theorem k_callIN_v (S : Mach K KX D own mn cc nL dep mc ms hh rp) {idx n dep1 mc1 ms1 maxL : Nat} {y : MethodName} {bytes : ByteArray} {q : Nat} {As stk : List GV} {P : GH → Prop} (d : decode cc pc = .ok (.invokespecial idx, 3)) (hw : CIN own idx y bytes maxL n) (M : GMet D y bytes maxL none [] dep1 mc1 ms1 (gR (some q) :: As) h (pv P)) (kk : ∀ h1 : GH, P h1 → K (pc + 3) ls st h1 (a + mc1) (b + ms1)) (hsk : stk = As.reverse ++ gR (some q) :: st) (hn : As.length = n) (hd9 : dep1 < dep) (hc : a + mc1 ≤ mc) (hs : b + ms1 ≤ ms) (hs9 : (st.map gcat).sum ≤ 8) : K pc ls stk h a b :=
  k_callIN (fs := []) S d hw M (fun r h1 hp => by cases hp.1; exact kk h1 hp.2) (fun E h1 hp => by cases hp.1) hsk hn hd9 hc hs hs9
theorem k_callIN_x (S : Mach K KX D own mn cc nL dep mc ms hh rp) {idx n dep1 mc1 ms1 maxL : Nat} {y : MethodName} {bytes : ByteArray} {q : Nat} {As stk : List GV} {X9 : String} {P : GH → Prop} (d : decode cc pc = .ok (.invokespecial idx, 3)) (hw : CIN own idx y bytes maxL n) (M : GMet D y bytes maxL none [] dep1 mc1 ms1 (gR (some q) :: As) h (px X9 P)) (kk : ∀ h1 : GH, P h1 → KX pc ls h1 (a + mc1) (b + ms1) X9) (hsk : stk = As.reverse ++ gR (some q) :: st) (hn : As.length = n) (hd9 : dep1 < dep) (hc : a + mc1 ≤ mc) (hs : b + ms1 ≤ ms) (hs9 : (st.map gcat).sum ≤ 8) : K pc ls stk h a b :=
  k_callIN (fs := []) S d hw M (fun r h1 hp => by cases hp.1) (fun E h1 hp => by cases hp.1; exact kk h1 hp.2) hsk hn hd9 hc hs hs9
theorem k_callV_q (S : Mach K KX D own mn cc nL dep mc ms hh rp) {idx n dep1 mc1 ms1 maxL : Nat} {y : MethodName} {bytes : ByteArray} {ci q : Nat} {ret : Option FieldType} {fs : List GV} {As stk : List GV} {P : Nat → GH → Prop} (d : decode cc pc = .ok (.invokevirtual idx, 3)) (hw : CV own idx ci y bytes maxL ret n) (M : GMet D y bytes maxL ret [] dep1 mc1 ms1 (gR (some q) :: As) h (pq P)) (hh9 : h q = some (gObj ci fs)) (kk : ∀ (q9 : Nat) (h1 : GH), P q9 h1 → K (pc + 3) ls (gR (some q9) :: st) h1 (a + mc1) (b + ms1)) (hsk : stk = As.reverse ++ gR (some q) :: st) (hn : As.length = n) (hd9 : dep1 < dep) (hc : a + mc1 ≤ mc) (hs : b + ms1 ≤ ms) (hs9 : (st.map gcat).sum ≤ 8) : K pc ls stk h a b :=
  k_callV S d hw M hh9 (fun r h1 hp => by obtain ⟨q9, hz, hp⟩ := hp; cases hz; exact kk q9 h1 hp) (fun E h1 hp => by obtain ⟨q9, hz, hp⟩ := hp; cases hz) hsk hn hd9 hc hs hs9
theorem k_callS_q (S : Mach K KX D own mn cc nL dep mc ms hh rp) {idx n dep1 mc1 ms1 maxL : Nat} {y : MethodName} {bytes : ByteArray} {ret : Option FieldType} {hh1 : List (Nat × Nat × Nat × Nat)} {As stk : List GV} {P : Nat → GH → Prop} (d : decode cc pc = .ok (.invokestatic idx, 3)) (hw : CSt own idx y bytes maxL ret hh1 n) (M : GMet D y bytes maxL ret hh1 dep1 mc1 ms1 As h (pq P)) (kk : ∀ (q9 : Nat) (h1 : GH), P q9 h1 → K (pc + 3) ls (gR (some q9) :: st) h1 (a + mc1) (b + ms1)) (hsk : stk = As.reverse ++  st) (hn : As.length = n) (hd9 : dep1 < dep) (hc : a + mc1 ≤ mc) (hs : b + ms1 ≤ ms) (hs9 : (st.map gcat).sum ≤ 8) : K pc ls stk h a b :=
  k_callS (fs := []) S d hw M (fun r h1 hp => by obtain ⟨q9, hz, hp⟩ := hp; cases hz; exact kk q9 h1 hp) (fun E h1 hp => by obtain ⟨q9, hz, hp⟩ := hp; cases hz) hsk hn hd9 hc hs hs9
theorem k_cad (S : Mach K KX D own mn cc nL dep mc ms hh rp) (kk : ¬ dLo D ≤ cad D 4 → (∀ i j : Nat, i < 4 → j < 4 → cad D i = cad D j → i = j) → K pc ls st h a b) : K pc ls st h a b := by
  obtain ⟨p, l, e, R, s, m, args, below, meth, c, Q, ⟨hx, hb, hown, hlk, hlD, hst, hKn, hmn⟩, hml, ⟨hRf, hRl, hRc, hRs⟩, htab, rfl, rfl, hrp⟩ := S
  intro H locs LS hR hS hL
  exact kk hKn.2.2.1.2.2.1.out hKn.2.2.1.2.2.2.2.2.2.2.2.2.1 H locs LS hR hS hL
theorem bShr_nat {n k : Nat} (h : n < 2147483648) (hk : k < 32) : bShr (n : Nat) (k : Nat) = ((n / 2 ^ k : Nat) : Int) := by
  unfold bShr
  have h1 : (Int32.ofInt ((n : Nat) : Int)) = nI n := by rw [i32_nI (by omega)]; congr 1
  have h2 : (Int32.ofInt ((k : Nat) : Int)) = nI k := by rw [i32_nI (by omega)]; congr 1
  rw [h1, h2]
  have h3 : ((nI k &&& 31).toBitVec.smod 32).toNat = k := by
    have : ∀ k : Nat, k < 32 → ((nI k &&& 31).toBitVec.smod 32).toNat = k := by decide +kernel
    exact this k hk
  rw [pk_shrN (by omega) _ k h3]
  exact nI_toInt (Nat.lt_of_le_of_lt (Nat.div_le_self _ _) (by omega))
theorem frm_ne {h : GH} {a b : Nat} {g1 g2 : gE} (h1 : h a = some g1) (h2 : h b = some g2) (hne : g1 ≠ g2) : a ≠ b := fun e => by
  subst e
  rw [h1] at h2
  exact hne (Option.some.inj h2)
end POSTS
