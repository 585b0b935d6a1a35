/-! QUOTIENTS OF INTS ARE NUMBERS -/
def okD (f : FP.Core.Fmt) (d : FP.Core.Datum) : Prop := match d with
  | .nan => False
  | .inf _ => True
  | .fin _ c q => c < 2 ^ f.p ∧ f.qmin ≤ q ∧ q ≤ f.qmax
theorem rr_ok {f : FP.Core.Fmt} (ht : f.tails < 2 ^ f.p) (hq : f.qmin ≤ f.qmax) (s : Bool) (num den : Nat) (e : Int) : okD f (FP.Core.roundRatio f s num den e) := by
  unfold FP.Core.roundRatio
  by_cases q : num = 0
  · rw [if_pos q]
    exact ⟨Nat.two_pow_pos _, Int.le_refl _, hq⟩
  · rw [if_neg q]
    unfold FP.Core.roundAt FP.Core.settle
    have h1 : f.qmin ≤ FP.Core.quantum f num den e := by
      unfold FP.Core.quantum
      exact Int.le_max_left _ _
    generalize FP.Core.quantum f num den e = k at h1 ⊢
    generalize FP.Core.nearest (FP.Core.unitsNum num e k) (FP.Core.unitsDen den e k) = c
    by_cases w : c < 2 ^ f.p
    · rw [if_pos w]
      unfold FP.Core.bound
      by_cases y : k ≤ f.qmax
      · rw [if_pos y]
        exact ⟨w, h1, y⟩
      · rw [if_neg y]
        exact True.intro
    · rw [if_neg w]
      unfold FP.Core.bound
      by_cases y : k + 1 ≤ f.qmax
      · rw [if_pos y]
        exact ⟨ht, by omega, y⟩
      · rw [if_neg y]
        exact True.intro
theorem rr32 (s : Bool) (num den : Nat) (e : Int) : okD FP.Core.b32 (FP.Core.roundRatio FP.Core.b32 s num den e) := rr_ok (by decide) (by decide) s num den e
theorem rr64 (s : Bool) (num den : Nat) (e : Int) : okD FP.Core.b64 (FP.Core.roundRatio FP.Core.b64 s num den e) := rr_ok (by decide) (by decide) s num den e
theorem fp_mask32 (x : UInt32) : (x &&& 0x7fffffff).toNat = x.toNat % 2147483648 := by
  rw [UInt32.toNat_and]
  exact Nat.and_two_pow_sub_one_eq_mod x.toNat 31
theorem enc32 {d : FP.Core.Datum} (h : okD FP.Core.b32 d) : vf_n32 (UInt32.ofNat (FP.Core.encode FP.Core.b32 d)) := by
  have eT : FP.Core.b32.tails = 8388608 := by decide
  have eE : FP.Core.b32.exps = 256 := by decide
  have eQ : FP.Core.b32.qmin = -149 := by decide
  have eM : FP.Core.b32.qmax = 104 := by decide
  have eP : 2 ^ FP.Core.b32.p = 16777216 := by decide
  have key : FP.Core.encode FP.Core.b32 d % 2147483648 ≤ 2139095040 := by
    cases d with
    | nan => exact False.elim h
    | inf s =>
      show FP.Core.assemble FP.Core.b32 s (FP.Core.b32.exps - 1) 0 % 2147483648 ≤ 2139095040
      unfold FP.Core.assemble
      rw [eT, eE]
      cases s <;> decide
    | fin s c q =>
      obtain ⟨h1, h2, h3⟩ := h
      rw [eP] at h1
      rw [eQ] at h2
      rw [eM] at h3
      show (if c < FP.Core.b32.tails then FP.Core.assemble FP.Core.b32 s 0 c else FP.Core.assemble FP.Core.b32 s ((q - FP.Core.b32.qmin).toNat + 1) (c - FP.Core.b32.tails)) % 2147483648 ≤ 2139095040
      unfold FP.Core.assemble
      rw [eT, eE, eQ]
      have hs : s.toNat = 0 ∨ s.toNat = 1 := by cases s <;> decide
      by_cases w : c < 8388608
      · rw [if_pos w]
        rcases hs with hs | hs <;> rw [hs] <;> omega
      · rw [if_neg w]
        rcases hs with hs | hs <;> rw [hs] <;> omega
  unfold vf_n32
  refine UInt32.le_iff_toNat_le.mpr ?_
  rw [fp_mask32, show (0x7f800000 : UInt32).toNat = 2139095040 from rfl, show (UInt32.ofNat (FP.Core.encode FP.Core.b32 d)).toNat = FP.Core.encode FP.Core.b32 d % 4294967296 from UInt32.toNat_ofNat']
  omega
theorem enc64 {d : FP.Core.Datum} (h : okD FP.Core.b64 d) : vf_n64 (UInt64.ofNat (FP.Core.encode FP.Core.b64 d)) := by
  have eT : FP.Core.b64.tails = 4503599627370496 := by decide
  have eE : FP.Core.b64.exps = 2048 := by decide
  have eQ : FP.Core.b64.qmin = -1074 := by decide
  have eM : FP.Core.b64.qmax = 971 := by decide
  have eP : 2 ^ FP.Core.b64.p = 9007199254740992 := by decide
  have key : FP.Core.encode FP.Core.b64 d % 9223372036854775808 ≤ 9218868437227405312 := by
    cases d with
    | nan => exact False.elim h
    | inf s =>
      show FP.Core.assemble FP.Core.b64 s (FP.Core.b64.exps - 1) 0 % 9223372036854775808 ≤ 9218868437227405312
      unfold FP.Core.assemble
      rw [eT, eE]
      cases s <;> decide
    | fin s c q =>
      obtain ⟨h1, h2, h3⟩ := h
      rw [eP] at h1
      rw [eQ] at h2
      rw [eM] at h3
      show (if c < FP.Core.b64.tails then FP.Core.assemble FP.Core.b64 s 0 c else FP.Core.assemble FP.Core.b64 s ((q - FP.Core.b64.qmin).toNat + 1) (c - FP.Core.b64.tails)) % 9223372036854775808 ≤ 9218868437227405312
      unfold FP.Core.assemble
      rw [eT, eE, eQ]
      have hs : s.toNat = 0 ∨ s.toNat = 1 := by cases s <;> decide
      by_cases w : c < 4503599627370496
      · rw [if_pos w]
        rcases hs with hs | hs <;> rw [hs] <;> omega
      · rw [if_neg w]
        rcases hs with hs | hs <;> rw [hs] <;> omega
  unfold vf_n64
  refine UInt64.le_iff_toNat_le.mpr ?_
  rw [fp_mask, show (0x7ff0000000000000 : UInt64).toNat = 9218868437227405312 from rfl, show (UInt64.ofNat (FP.Core.encode FP.Core.b64 d)).toNat = FP.Core.encode FP.Core.b64 d % 18446744073709551616 from UInt64.toNat_ofNat']
  omega
theorem fp_nn32 {x : UInt32} (h : vf_n32 x) : FP.Core.decode FP.Core.b32 x.toNat ≠ .nan := by
  unfold vf_n32 at h
  have h1 := UInt32.le_iff_toNat_le.mp h
  rw [fp_mask32, show (0x7f800000 : UInt32).toNat = 2139095040 from rfl] at h1
  have eE : FP.Core.fieldE FP.Core.b32 x.toNat = x.toNat / 8388608 % 256 := rfl
  have eT : FP.Core.fieldT FP.Core.b32 x.toNat = x.toNat % 8388608 := rfl
  have eX : FP.Core.b32.exps - 1 = 255 := rfl
  unfold FP.Core.decode
  rw [eE, eT, eX]
  by_cases q : x.toNat / 8388608 % 256 = 255
  · have t0 : x.toNat % 8388608 = 0 := by omega
    rw [if_pos q, if_pos t0]
    exact fun z => nomatch z
  · rw [if_neg q]
    split <;> exact fun z => nomatch z
/-- a finite number that is not 0 -/
def fnz (d : FP.Core.Datum) : Bool := match d with
  | .fin _ c _ => decide (¬ c = 0)
  | _ => false
theorem q32 {x y : UInt32} (hx : FP.Core.decode FP.Core.b32 x.toNat ≠ .nan) (hy : fnz (FP.Core.decode FP.Core.b32 y.toNat) = true) : vf_n32 (FP.fdiv x y) := by
  refine enc32 (d := FP.Core.quotient FP.Core.b32 (FP.Core.decode FP.Core.b32 x.toNat) (FP.Core.decode FP.Core.b32 y.toNat)) ?_
  generalize FP.Core.decode FP.Core.b32 x.toNat = a at hx ⊢
  generalize FP.Core.decode FP.Core.b32 y.toNat = b at hy ⊢
  cases b with
  | nan => exact nomatch hy
  | inf t => exact nomatch hy
  | fin t d r =>
    have hd : ¬ d = 0 := of_decide_eq_true hy
    cases a with
    | nan => exact absurd rfl hx
    | inf s => exact True.intro
    | fin s c q =>
      show okD FP.Core.b32 (if d = 0 then (if c = 0 then .nan else .inf (s != t)) else FP.Core.roundRatio FP.Core.b32 (s != t) c d (q - r))
      rw [if_neg hd]
      exact rr32 _ _ _ _
theorem q64 {x y : UInt64} (hx : FP.Core.decode FP.Core.b64 x.toNat ≠ .nan) (hy : fnz (FP.Core.decode FP.Core.b64 y.toNat) = true) : vf_n64 (FP.ddiv x y) := by
  refine enc64 (d := FP.Core.quotient FP.Core.b64 (FP.Core.decode FP.Core.b64 x.toNat) (FP.Core.decode FP.Core.b64 y.toNat)) ?_
  generalize FP.Core.decode FP.Core.b64 x.toNat = a at hx ⊢
  generalize FP.Core.decode FP.Core.b64 y.toNat = b at hy ⊢
  cases b with
  | nan => exact nomatch hy
  | inf t => exact nomatch hy
  | fin t d r =>
    have hd : ¬ d = 0 := of_decide_eq_true hy
    cases a with
    | nan => exact absurd rfl hx
    | inf s => exact True.intro
    | fin s c q =>
      show okD FP.Core.b64 (if d = 0 then (if c = 0 then .nan else .inf (s != t)) else FP.Core.roundRatio FP.Core.b64 (s != t) c d (q - r))
      rw [if_neg hd]
      exact rr64 _ _ _ _
theorem f2d_nn {x : UInt32} (hx : vf_n32 x) : vf_n64 (FP.f2d x) := by
  have h := fp_nn32 hx
  have e : FP.f2d x = FP.Core.f2d x := by
    unfold FP.f2d
    rw [if_neg (show ¬ FP.Core.fIsNaN x = true from fun z => h (of_decide_eq_true z))]
  rw [e]
  refine enc64 (d := FP.Core.round FP.Core.b64 (FP.Core.decode FP.Core.b32 x.toNat)) ?_
  generalize FP.Core.decode FP.Core.b32 x.toNat = a at h ⊢
  cases a with
  | nan => exact absurd rfl h
  | inf s => exact True.intro
  | fin s c q => exact rr64 _ _ _ _
theorem i2f_nn (a : Int32) : vf_n32 (FP.i2f a) := enc32 (d := FP.Core.round FP.Core.b32 (FP.Core.ofInt a.toInt)) (rr32 _ _ _ _)
theorem i2d_nn (a : Int32) : vf_n64 (FP.i2d a) := enc64 (d := FP.Core.round FP.Core.b64 (FP.Core.ofInt a.toInt)) (rr64 _ _ _ _)
set_option maxRecDepth 100000 in
theorem fnz_f : ∀ i, i < 53 → ∀ j, j < 52 → 52 * i + j ≠ 0 → fnz (FP.Core.decode FP.Core.b32 (FP.i2f (nI (52 * i + j))).toNat) = true := by decide +kernel
theorem fnz_d : ∀ j, j < 4 → j ≠ 0 → fnz (FP.Core.decode FP.Core.b64 (FP.i2d (nI j)).toNat) = true := by decide +kernel
theorem nan_us {a b : Int32} (h0 : 0 ≤ b.toInt) (h1 : b.toInt ≤ 2700) (hb : ¬ b = 0) : vf_n32 (FP.fdiv (FP.i2f a) (FP.i2f b)) := by
  have z0 : (0 : Int32).toInt = 0 := by decide
  have n0 : ¬ b.toInt = 0 := fun z => hb (Int32.toInt_inj.mp (z.trans z0.symm))
  have e : b = nI b.toInt.toNat := Int32.toInt_inj.mp (by rw [nI_toInt (by omega)]; omega)
  have e2 : b.toInt.toNat = 52 * (b.toInt.toNat / 52) + b.toInt.toNat % 52 := by omega
  refine q32 (fp_nn32 (i2f_nn a)) ?_
  rw [e, e2]
  exact fnz_f _ (by omega) _ (by omega) (by omega)
theorem nan_mh {a : Int32} {n : Nat} (h : n ≤ 3) (h0 : ¬ n = 0) : vf_n64 (FP.ddiv (FP.i2d a) (FP.i2d (nI n))) := q64 (fp_nn (i2d_nn a)) (fnz_d n (by omega) h0)
theorem off_bd {n : Nat} {σ μ : KS} (R : Rel n σ μ) : 0 ≤ (kI μ 29 0).toInt ∧ (kI μ 29 0).toInt ≤ 2700 := by
  obtain ⟨t1, t2, t3, t4⟩ := R.2.2.1
  exact ⟨t3, by omega⟩
