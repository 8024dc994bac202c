/-! the share that is kept: a quotient of two small numbers is a number -/
section FLT
theorem fl_nn {s t : Bool} {c d : Nat} {e : Int} : FP.Core.roundRatio FP.Core.b32 s c d e ≠ .nan := by
  unfold FP.Core.roundRatio
  split
  · exact fun h => nomatch h
  · unfold FP.Core.roundAt FP.Core.settle FP.Core.bound
    split
    · split <;> exact fun h => nomatch h
    · split <;> exact fun h => nomatch h
theorem fl_nn64 {s t : Bool} {c d : Nat} {e : Int} : FP.Core.roundRatio FP.Core.b64 s c d e ≠ .nan := by
  unfold FP.Core.roundRatio
  split
  · exact fun h => nomatch h
  · unfold FP.Core.roundAt FP.Core.settle FP.Core.bound
    split
    · split <;> exact fun h => nomatch h
    · split <;> exact fun h => nomatch h
def flOk (x : Nat) : Bool := match FP.Core.decode FP.Core.b32 (FP.i2f (Int32.ofInt (x : Nat))).toNat with
  | .fin _ c _ => decide (x = 0 ∨ c ≠ 0)
  | _ => false
set_option maxRecDepth 100000 in
theorem fl_all : ∀ x : Nat, x < 513 → flOk x = true := by decide +kernel
theorem fl_fin {x : Nat} (h : x < 513) : ∃ s c q, FP.Core.decode FP.Core.b32 (FP.i2f (Int32.ofInt (x : Nat))).toNat = .fin s c q ∧ (x = 0 ∨ c ≠ 0) := by
  have h1 := fl_all x h
  unfold flOk at h1
  split at h1
  · next s c q e => exact ⟨s, c, q, e, of_decide_eq_true h1⟩
  · cases h1
theorem fl_n32 {r : UInt32} (h : FP.Core.decode FP.Core.b32 r.toNat ≠ .nan) : vf_n32 r := by
  have h1 : ¬ FP.Core.fIsNaN r = true := by
    unfold FP.Core.fIsNaN FP.Core.isNaN
    rw [decide_eq_true_eq]
    exact h
  rw [FP.Core.isNaN_bits32] at h1
  unfold vf_n32
  rw [UInt32.le_iff_toNat_le, UInt32.toNat_and]
  have e1 : (0x7fffffff : UInt32).toNat = 2 ^ 31 - 1 := by decide
  have e2 : (0x7f800000 : UInt32).toNat = 2139095040 := by decide
  rw [e1, e2, Nat.and_two_pow_sub_one_eq_mod]
  omega
theorem fl_n64 {r : UInt64} (h : FP.Core.decode FP.Core.b64 r.toNat ≠ .nan) : vf_n64 r := by
  have h1 : ¬ FP.Core.dIsNaN r = true := by
    unfold FP.Core.dIsNaN FP.Core.isNaN
    rw [decide_eq_true_eq]
    exact h
  rw [FP.Core.isNaN_bits] at h1
  unfold vf_n64
  rw [UInt64.le_iff_toNat_le, UInt64.toNat_and]
  have e1 : (0x7fffffffffffffff : UInt64).toNat = 2 ^ 63 - 1 := by decide
  have e2 : (0x7ff0000000000000 : UInt64).toNat = 9218868437227405312 := by decide
  rw [e1, e2, Nat.and_two_pow_sub_one_eq_mod]
  omega
theorem fl_div {x y : Nat} (hx : x < 513) (hy : 0 < y ∧ y < 513) : FP.Core.decode FP.Core.b32 (FP.fdiv (FP.i2f (Int32.ofInt (x : Nat))) (FP.i2f (Int32.ofInt (y : Nat)))).toNat ≠ .nan := by
  obtain ⟨s, c, q, e1, -⟩ := fl_fin hx
  obtain ⟨t, d, r, e2, h2⟩ := fl_fin hy.2
  have hd : d ≠ 0 := h2.resolve_left (by omega)
  show FP.Core.decode FP.Core.b32 (UInt32.ofNat (FP.Core.div FP.Core.b32 _ _)).toNat ≠ .nan
  unfold FP.Core.div
  rw [e1, e2]
  show FP.Core.decode FP.Core.b32 (UInt32.ofNat (FP.Core.encode FP.Core.b32 (if d = 0 then _ else FP.Core.roundRatio FP.Core.b32 (s != t) c d (q - r)))).toNat ≠ .nan
  rw [if_neg hd]
  have hf := FP.Core.roundRatio_fits FP.Core.good_b32 (s != t) c (B := d) (by omega) (q - r)
  have hl := FP.Core.encode_lt FP.Core.good_b32 _ hf
  rw [FP.Core.size_b32] at hl
  rw [UInt32.toNat_ofNat', Nat.mod_eq_of_lt hl, FP.Core.decode_encode FP.Core.good_b32 _ hf]
  exact fl_nn (t := t)
theorem fl_f2d {v : UInt32} (h : FP.Core.decode FP.Core.b32 v.toNat ≠ .nan) : FP.Core.decode FP.Core.b64 (FP.f2d v).toNat ≠ .nan := by
  have h1 : ¬ FP.Core.fIsNaN v = true := by
    unfold FP.Core.fIsNaN FP.Core.isNaN
    rw [decide_eq_true_eq]
    exact h
  unfold FP.f2d
  rw [if_neg h1]
  show FP.Core.decode FP.Core.b64 (UInt64.ofNat (FP.Core.encode FP.Core.b64 (FP.Core.round FP.Core.b64 (FP.Core.decode FP.Core.b32 v.toNat)))).toNat ≠ .nan
  have hf := FP.Core.round_fits FP.Core.good_b64 (FP.Core.decode FP.Core.b32 v.toNat)
  have hl := FP.Core.encode_lt FP.Core.good_b64 _ hf
  rw [FP.Core.size_b64] at hl
  rw [UInt64.toNat_ofNat', Nat.mod_eq_of_lt hl, FP.Core.decode_encode FP.Core.good_b64 _ hf]
  cases e : FP.Core.decode FP.Core.b32 v.toNat with
  | nan => exact absurd e h
  | inf s => exact fun h => nomatch h
  | fin s c q => exact fl_nn64 (t := s)
end FLT
