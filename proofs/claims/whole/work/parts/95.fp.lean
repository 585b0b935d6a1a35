/-! NUMBERS THAT ARE NO NaN -/
theorem fp_mask (x : UInt64) : (x &&& 0x7fffffffffffffff).toNat = x.toNat % 9223372036854775808 := by
  rw [UInt64.toNat_and]
  exact Nat.and_two_pow_sub_one_eq_mod x.toNat 63
theorem fp_nn {x : UInt64} (h : vf_n64 x) : FP.Core.decode FP.Core.b64 x.toNat ≠ .nan := by
  unfold vf_n64 at h
  have h1 := UInt64.le_iff_toNat_le.mp h
  rw [fp_mask, show (0x7ff0000000000000 : UInt64).toNat = 9218868437227405312 from rfl] at h1
  have eE : FP.Core.fieldE FP.Core.b64 x.toNat = x.toNat / 4503599627370496 % 2048 := rfl
  have eT : FP.Core.fieldT FP.Core.b64 x.toNat = x.toNat % 4503599627370496 := rfl
  have eX : FP.Core.b64.exps - 1 = 2047 := rfl
  unfold FP.Core.decode
  rw [eE, eT, eX]
  by_cases q : x.toNat / 4503599627370496 % 2048 = 2047
  · have t0 : x.toNat % 4503599627370496 = 0 := by omega
    rw [if_pos q, if_pos t0]
    exact fun z => nomatch z
  · rw [if_neg q]
    split <;> exact fun z => nomatch z
theorem cmp_self (a : Int) : compare a a = .eq := by simp [compare, compareOfLessAndEq]
theorem fp_dc (x : UInt64) (h : vf_n64 x) : Op.cmpValue (FP.dcmp x x) .l = 0 := by
  have e : FP.dcmp x x = some .eq := by
    show FP.Core.order (FP.Core.decode FP.Core.b64 x.toNat) (FP.Core.decode FP.Core.b64 x.toNat) = some .eq
    have n := fp_nn h
    cases d : FP.Core.decode FP.Core.b64 x.toNat with
    | nan => exact absurd d n
    | inf s => exact congrArg some (cmp_self _)
    | fin s c q => exact congrArg some (cmp_self _)
  rw [e]
  rfl
