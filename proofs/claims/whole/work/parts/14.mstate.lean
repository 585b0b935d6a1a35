/-! THE REFERENCE'S CELLS: its object (place 100), and its rows, by the number of their field -/
def dCell (c : mC) (B : Nat → Nat) (μ : KS) (k : Nat) : va_E := match k with
  | 1 => .inl (c.1, 3, .inl (fun j => kI μ 1 j))
  | 2 => .inl (c.1, 3, .inl (fun j => kI μ 2 j))
  | 6 => .inl (c.1, 6, .inl (fun j => nI (kN μ 6 j)))
  | 7 => .inl (c.1, 6, .inl (fun j => kI μ 7 j))
  | 8 => .inl (c.2.1, 6, .inr (.inl (fun j => kW μ 8 j)))
  | 10 => .inl (c.1, 12, .inl (fun j => nI (kN μ 10 j)))
  | 11 => .inl (c.1, 12, .inl (fun j => kI μ 11 j))
  | 12 => .inl (c.2.1, 12, .inr (.inl (fun j => kW μ 12 j)))
  | 13 => .inl (c.1, 12, .inl (fun j => kI μ 13 j))
  | 14 => .inl (c.1, 12, .inl (fun j => kI μ 14 j))
  | 15 => .inl (c.1, 12, .inl (fun j => kI μ 15 j))
  | 16 => .inl (c.1, 12, .inl (fun j => kI μ 16 j))
  | 17 => .inl (c.1, 12, .inl (fun j => kI μ 17 j))
  | 18 => .inl (c.1, 12, .inl (fun j => kI μ 18 j))
  | 19 => .inl (c.1, 12, .inl (fun j => kI μ 19 j))
  | 20 => .inl (c.1, 12, .inl (fun j => oI (kO μ 20 j)))
  | 21 => .inl (c.2.2.1, 12, .inl (fun j => bI (kB μ 21 j)))
  | 22 => .inl (c.1, 12, .inl (fun j => oI (kO μ 22 j)))
  | 23 => .inl (c.1, 12, .inl (fun j => kI μ 23 j))
  | 26 => .inl (c.1, 4, .inl (fun j => oI (kO μ 26 j)))
  | 30 => .inl (c.1, 3, .inl (fun j => oI (kO μ 30 j)))
  | 31 => .inl (c.1, 12, .inl (fun j => kI μ 31 j))
  | 32 => .inl (c.2.2.1, 12, .inl (fun j => bI (kB μ 32 j)))
  | _ => .inr (8, [.int (kI μ 0 0), .ref (B 1), .ref (B 2), .int (nI (kN μ 3 0)), .int (kI μ 4 0), .int (kI μ 5 0), .ref (B 6), .ref (B 7), .ref (B 8), .int (nI (kN μ 9 0)), .ref (B 10), .ref (B 11), .ref (B 12), .ref (B 13), .ref (B 14), .ref (B 15), .ref (B 16), .ref (B 17), .ref (B 18), .ref (B 19), .ref (B 20), .ref (B 21), .ref (B 22), .ref (B 23), .int (nI (kN μ 24 0)), .int (kI μ 25 0), .ref (B 26), .int (kI μ 27 0), .int (kI μ 28 0), .int (kI μ 29 0), .ref (B 30), .ref (B 31), .ref (B 32), .int (kI μ 33 0)])
def dIds : List Nat := [1, 2, 6, 7, 8, 10, 11, 12, 13, 14, 15, 16, 17, 18, 19, 20, 21, 22, 23, 26, 30, 31, 32, 100]
/-- what keeps the reference's numbers in range -/
def dWF (μ : KS) : Prop :=
  (kN μ 3 0 ≤ 3 ∧ 1 ≤ kN μ 9 0 ∧ kN μ 9 0 ≤ 6 ∧ kN μ 24 0 ≤ 12) ∧
  (∀ g, 0 < g → g < kN μ 9 0 → kN μ 6 g < g) ∧
  (∀ t, t < kN μ 24 0 → kN μ 10 t < kN μ 9 0) ∧
  (∀ t, t < kN μ 24 0 → ∀ l, kO μ 22 t = some l → l < 4) ∧
  (∀ l, l < 4 → ∀ t, kO μ 26 l = some t → t < kN μ 24 0)
def DRep (c : mC) (P : Nat → Prop) (h0 : mH) (B : Nat → Nat) (μ : KS) (h : mH) : Prop :=
  (∀ k, k ∈ dIds → h (B k) = some (dCell c B μ k) ∧ P (B k)) ∧ (∀ j, j ∈ dIds → ∀ k, k ∈ dIds → B j = B k → j = k) ∧ ((∀ a, ¬ P a → h a = h0 a) ∧ ∀ a, h0 a = none → P a) ∧ dWF μ
theorem upd_nI {f g : Nat → Int32} {t : Nat} {x : Int32} (ht : t < 2 ^ 31) (h1 : g t = x) (h2 : ∀ j, j ≠ t → g j = f j) : upd f (nI t).toNatClampNeg x = g := by
  rw [nI_clamp ht]
  funext j
  by_cases e : j = t
  · subst e; simp [upd, h1]
  · simp [upd, e, h2 j e]
theorem updL_nI {f g : Nat → Int64} {t : Nat} {x : Int64} (ht : t < 2 ^ 31) (h1 : g t = x) (h2 : ∀ j, j ≠ t → g j = f j) : vp_updL f (nI t).toNatClampNeg x = g := by
  rw [nI_clamp ht]
  funext j
  by_cases e : j = t
  · subst e; simp [vp_updL, h1]
  · simp [vp_updL, e, h2 j e]
section DR
variable {c : mC} {P : Nat → Prop} {h0 h : mH} {B : Nat → Nat} {μ : KS}
theorem DRep.at (hM : DRep c P h0 B μ h) (k : Nat) (hk : k ∈ dIds) : h (B k) = some (dCell c B μ k) := (hM.1 k hk).1
theorem DRep.wf (hM : DRep c P h0 B μ h) : dWF μ := hM.2.2.2
theorem DRep.upd (hM : DRep c P h0 B μ h) {k : Nat} (hk : k ∈ dIds) {μ1 : KS} {e : va_E} (he : dCell c B μ1 k = e) (hs : ∀ j, j ∈ dIds → j ≠ k → dCell c B μ1 j = dCell c B μ j) (hw : dWF μ1) : DRep c P h0 B μ1 (mu h (B k) e) := by
  refine ⟨fun j hj => ⟨?_, (hM.1 j hj).2⟩, hM.2.1, ⟨fun a ha => ?_, hM.2.2.1.2⟩, hw⟩
  · by_cases q : B j = B k
    · have := hM.2.1 j hj k hk q
      subst this
      rw [mu_s, he]
    · rw [mu_n q, hM.at j hj, hs j hj (fun z => q (by rw [z]))]
  · rw [mu_n (fun q => ha (by rw [q]; exact (hM.1 k hk).2))]
    exact hM.2.2.1.1 a ha
theorem g_m0 (hM : DRep c P h0 B μ h) : mFd h (B 100) 8 0 (.int (kI μ 0 0)) := ⟨_, hM.at 100 (by decide), rfl⟩
theorem g_m1 (hM : DRep c P h0 B μ h) : mFd h (B 100) 8 1 (.ref (B 1)) := ⟨_, hM.at 100 (by decide), rfl⟩
theorem g_m2 (hM : DRep c P h0 B μ h) : mFd h (B 100) 8 2 (.ref (B 2)) := ⟨_, hM.at 100 (by decide), rfl⟩
theorem g_m3 (hM : DRep c P h0 B μ h) : mFd h (B 100) 8 3 (.int (nI (kN μ 3 0))) := ⟨_, hM.at 100 (by decide), rfl⟩
theorem g_m4 (hM : DRep c P h0 B μ h) : mFd h (B 100) 8 4 (.int (kI μ 4 0)) := ⟨_, hM.at 100 (by decide), rfl⟩
theorem g_m5 (hM : DRep c P h0 B μ h) : mFd h (B 100) 8 5 (.int (kI μ 5 0)) := ⟨_, hM.at 100 (by decide), rfl⟩
theorem g_m6 (hM : DRep c P h0 B μ h) : mFd h (B 100) 8 6 (.ref (B 6)) := ⟨_, hM.at 100 (by decide), rfl⟩
theorem g_m7 (hM : DRep c P h0 B μ h) : mFd h (B 100) 8 7 (.ref (B 7)) := ⟨_, hM.at 100 (by decide), rfl⟩
theorem g_m8 (hM : DRep c P h0 B μ h) : mFd h (B 100) 8 8 (.ref (B 8)) := ⟨_, hM.at 100 (by decide), rfl⟩
theorem g_m9 (hM : DRep c P h0 B μ h) : mFd h (B 100) 8 9 (.int (nI (kN μ 9 0))) := ⟨_, hM.at 100 (by decide), rfl⟩
theorem g_m10 (hM : DRep c P h0 B μ h) : mFd h (B 100) 8 10 (.ref (B 10)) := ⟨_, hM.at 100 (by decide), rfl⟩
theorem g_m11 (hM : DRep c P h0 B μ h) : mFd h (B 100) 8 11 (.ref (B 11)) := ⟨_, hM.at 100 (by decide), rfl⟩
theorem g_m12 (hM : DRep c P h0 B μ h) : mFd h (B 100) 8 12 (.ref (B 12)) := ⟨_, hM.at 100 (by decide), rfl⟩
theorem g_m13 (hM : DRep c P h0 B μ h) : mFd h (B 100) 8 13 (.ref (B 13)) := ⟨_, hM.at 100 (by decide), rfl⟩
theorem g_m14 (hM : DRep c P h0 B μ h) : mFd h (B 100) 8 14 (.ref (B 14)) := ⟨_, hM.at 100 (by decide), rfl⟩
theorem g_m15 (hM : DRep c P h0 B μ h) : mFd h (B 100) 8 15 (.ref (B 15)) := ⟨_, hM.at 100 (by decide), rfl⟩
theorem g_m16 (hM : DRep c P h0 B μ h) : mFd h (B 100) 8 16 (.ref (B 16)) := ⟨_, hM.at 100 (by decide), rfl⟩
theorem g_m17 (hM : DRep c P h0 B μ h) : mFd h (B 100) 8 17 (.ref (B 17)) := ⟨_, hM.at 100 (by decide), rfl⟩
theorem g_m18 (hM : DRep c P h0 B μ h) : mFd h (B 100) 8 18 (.ref (B 18)) := ⟨_, hM.at 100 (by decide), rfl⟩
theorem g_m19 (hM : DRep c P h0 B μ h) : mFd h (B 100) 8 19 (.ref (B 19)) := ⟨_, hM.at 100 (by decide), rfl⟩
theorem g_m20 (hM : DRep c P h0 B μ h) : mFd h (B 100) 8 20 (.ref (B 20)) := ⟨_, hM.at 100 (by decide), rfl⟩
theorem g_m21 (hM : DRep c P h0 B μ h) : mFd h (B 100) 8 21 (.ref (B 21)) := ⟨_, hM.at 100 (by decide), rfl⟩
theorem g_m22 (hM : DRep c P h0 B μ h) : mFd h (B 100) 8 22 (.ref (B 22)) := ⟨_, hM.at 100 (by decide), rfl⟩
theorem g_m23 (hM : DRep c P h0 B μ h) : mFd h (B 100) 8 23 (.ref (B 23)) := ⟨_, hM.at 100 (by decide), rfl⟩
theorem g_m24 (hM : DRep c P h0 B μ h) : mFd h (B 100) 8 24 (.int (nI (kN μ 24 0))) := ⟨_, hM.at 100 (by decide), rfl⟩
theorem g_m25 (hM : DRep c P h0 B μ h) : mFd h (B 100) 8 25 (.int (kI μ 25 0)) := ⟨_, hM.at 100 (by decide), rfl⟩
theorem g_m26 (hM : DRep c P h0 B μ h) : mFd h (B 100) 8 26 (.ref (B 26)) := ⟨_, hM.at 100 (by decide), rfl⟩
theorem g_m27 (hM : DRep c P h0 B μ h) : mFd h (B 100) 8 27 (.int (kI μ 27 0)) := ⟨_, hM.at 100 (by decide), rfl⟩
theorem g_m28 (hM : DRep c P h0 B μ h) : mFd h (B 100) 8 28 (.int (kI μ 28 0)) := ⟨_, hM.at 100 (by decide), rfl⟩
theorem g_m29 (hM : DRep c P h0 B μ h) : mFd h (B 100) 8 29 (.int (kI μ 29 0)) := ⟨_, hM.at 100 (by decide), rfl⟩
theorem g_m30 (hM : DRep c P h0 B μ h) : mFd h (B 100) 8 30 (.ref (B 30)) := ⟨_, hM.at 100 (by decide), rfl⟩
theorem g_m31 (hM : DRep c P h0 B μ h) : mFd h (B 100) 8 31 (.ref (B 31)) := ⟨_, hM.at 100 (by decide), rfl⟩
theorem g_m32 (hM : DRep c P h0 B μ h) : mFd h (B 100) 8 32 (.ref (B 32)) := ⟨_, hM.at 100 (by decide), rfl⟩
theorem g_m33 (hM : DRep c P h0 B μ h) : mFd h (B 100) 8 33 (.int (kI μ 33 0)) := ⟨_, hM.at 100 (by decide), rfl⟩
theorem a_m1 (hM : DRep c P h0 B μ h) : h (B 1) = some (.inl (c.1, 3, .inl (fun j => kI μ 1 j))) := hM.at 1 (by decide)
theorem a_m2 (hM : DRep c P h0 B μ h) : h (B 2) = some (.inl (c.1, 3, .inl (fun j => kI μ 2 j))) := hM.at 2 (by decide)
theorem a_m6 (hM : DRep c P h0 B μ h) : h (B 6) = some (.inl (c.1, 6, .inl (fun j => nI (kN μ 6 j)))) := hM.at 6 (by decide)
theorem a_m7 (hM : DRep c P h0 B μ h) : h (B 7) = some (.inl (c.1, 6, .inl (fun j => kI μ 7 j))) := hM.at 7 (by decide)
theorem a_m8 (hM : DRep c P h0 B μ h) : h (B 8) = some (.inl (c.2.1, 6, .inr (.inl (fun j => kW μ 8 j)))) := hM.at 8 (by decide)
theorem a_m10 (hM : DRep c P h0 B μ h) : h (B 10) = some (.inl (c.1, 12, .inl (fun j => nI (kN μ 10 j)))) := hM.at 10 (by decide)
theorem a_m11 (hM : DRep c P h0 B μ h) : h (B 11) = some (.inl (c.1, 12, .inl (fun j => kI μ 11 j))) := hM.at 11 (by decide)
theorem a_m12 (hM : DRep c P h0 B μ h) : h (B 12) = some (.inl (c.2.1, 12, .inr (.inl (fun j => kW μ 12 j)))) := hM.at 12 (by decide)
theorem a_m13 (hM : DRep c P h0 B μ h) : h (B 13) = some (.inl (c.1, 12, .inl (fun j => kI μ 13 j))) := hM.at 13 (by decide)
theorem a_m14 (hM : DRep c P h0 B μ h) : h (B 14) = some (.inl (c.1, 12, .inl (fun j => kI μ 14 j))) := hM.at 14 (by decide)
theorem a_m15 (hM : DRep c P h0 B μ h) : h (B 15) = some (.inl (c.1, 12, .inl (fun j => kI μ 15 j))) := hM.at 15 (by decide)
theorem a_m16 (hM : DRep c P h0 B μ h) : h (B 16) = some (.inl (c.1, 12, .inl (fun j => kI μ 16 j))) := hM.at 16 (by decide)
theorem a_m17 (hM : DRep c P h0 B μ h) : h (B 17) = some (.inl (c.1, 12, .inl (fun j => kI μ 17 j))) := hM.at 17 (by decide)
theorem a_m18 (hM : DRep c P h0 B μ h) : h (B 18) = some (.inl (c.1, 12, .inl (fun j => kI μ 18 j))) := hM.at 18 (by decide)
theorem a_m19 (hM : DRep c P h0 B μ h) : h (B 19) = some (.inl (c.1, 12, .inl (fun j => kI μ 19 j))) := hM.at 19 (by decide)
theorem a_m20 (hM : DRep c P h0 B μ h) : h (B 20) = some (.inl (c.1, 12, .inl (fun j => oI (kO μ 20 j)))) := hM.at 20 (by decide)
theorem a_m21 (hM : DRep c P h0 B μ h) : h (B 21) = some (.inl (c.2.2.1, 12, .inl (fun j => bI (kB μ 21 j)))) := hM.at 21 (by decide)
theorem a_m22 (hM : DRep c P h0 B μ h) : h (B 22) = some (.inl (c.1, 12, .inl (fun j => oI (kO μ 22 j)))) := hM.at 22 (by decide)
theorem a_m23 (hM : DRep c P h0 B μ h) : h (B 23) = some (.inl (c.1, 12, .inl (fun j => kI μ 23 j))) := hM.at 23 (by decide)
theorem a_m26 (hM : DRep c P h0 B μ h) : h (B 26) = some (.inl (c.1, 4, .inl (fun j => oI (kO μ 26 j)))) := hM.at 26 (by decide)
theorem a_m30 (hM : DRep c P h0 B μ h) : h (B 30) = some (.inl (c.1, 3, .inl (fun j => oI (kO μ 30 j)))) := hM.at 30 (by decide)
theorem a_m31 (hM : DRep c P h0 B μ h) : h (B 31) = some (.inl (c.1, 12, .inl (fun j => kI μ 31 j))) := hM.at 31 (by decide)
theorem a_m32 (hM : DRep c P h0 B μ h) : h (B 32) = some (.inl (c.2.2.1, 12, .inl (fun j => bI (kB μ 32 j)))) := hM.at 32 (by decide)
theorem p_m0 (hM : DRep c P h0 B μ h) (x : Int32) : mFp h (B 100) 8 0 (.int x) (DRep c P h0 B (sI μ 0 (va_up (kI μ 0) 0 x))) := by
  refine ⟨_, hM.at 100 (by decide), Nat.le_of_ble_eq_true rfl, hM.upd (k := 100) (by decide) ?_ ?_ ?_⟩
  · rfl
  · intro j hj hne
    simp only [dIds, List.mem_cons, List.not_mem_nil, or_false] at hj
    rcases hj with rfl | rfl | rfl | rfl | rfl | rfl | rfl | rfl | rfl | rfl | rfl | rfl | rfl | rfl | rfl | rfl | rfl | rfl | rfl | rfl | rfl | rfl | rfl | rfl
    all_goals first | rfl | exact absurd rfl hne
  · exact hM.wf
theorem p_m3 (hM : DRep c P h0 B μ h) (x : Nat) (hw : dWF (sN μ 3 (va_up (kN μ 3) 0 x))) : mFp h (B 100) 8 3 (.int (nI x)) (DRep c P h0 B (sN μ 3 (va_up (kN μ 3) 0 x))) := by
  refine ⟨_, hM.at 100 (by decide), Nat.le_of_ble_eq_true rfl, hM.upd (k := 100) (by decide) ?_ ?_ hw⟩
  · rfl
  · intro j hj hne
    simp only [dIds, List.mem_cons, List.not_mem_nil, or_false] at hj
    rcases hj with rfl | rfl | rfl | rfl | rfl | rfl | rfl | rfl | rfl | rfl | rfl | rfl | rfl | rfl | rfl | rfl | rfl | rfl | rfl | rfl | rfl | rfl | rfl | rfl
    all_goals first | rfl | exact absurd rfl hne
theorem p_m4 (hM : DRep c P h0 B μ h) (x : Int32) : mFp h (B 100) 8 4 (.int x) (DRep c P h0 B (sI μ 4 (va_up (kI μ 4) 0 x))) := by
  refine ⟨_, hM.at 100 (by decide), Nat.le_of_ble_eq_true rfl, hM.upd (k := 100) (by decide) ?_ ?_ ?_⟩
  · rfl
  · intro j hj hne
    simp only [dIds, List.mem_cons, List.not_mem_nil, or_false] at hj
    rcases hj with rfl | rfl | rfl | rfl | rfl | rfl | rfl | rfl | rfl | rfl | rfl | rfl | rfl | rfl | rfl | rfl | rfl | rfl | rfl | rfl | rfl | rfl | rfl | rfl
    all_goals first | rfl | exact absurd rfl hne
  · exact hM.wf
theorem p_m5 (hM : DRep c P h0 B μ h) (x : Int32) : mFp h (B 100) 8 5 (.int x) (DRep c P h0 B (sI μ 5 (va_up (kI μ 5) 0 x))) := by
  refine ⟨_, hM.at 100 (by decide), Nat.le_of_ble_eq_true rfl, hM.upd (k := 100) (by decide) ?_ ?_ ?_⟩
  · rfl
  · intro j hj hne
    simp only [dIds, List.mem_cons, List.not_mem_nil, or_false] at hj
    rcases hj with rfl | rfl | rfl | rfl | rfl | rfl | rfl | rfl | rfl | rfl | rfl | rfl | rfl | rfl | rfl | rfl | rfl | rfl | rfl | rfl | rfl | rfl | rfl | rfl
    all_goals first | rfl | exact absurd rfl hne
  · exact hM.wf
theorem p_m9 (hM : DRep c P h0 B μ h) (x : Nat) (hw : dWF (sN μ 9 (va_up (kN μ 9) 0 x))) : mFp h (B 100) 8 9 (.int (nI x)) (DRep c P h0 B (sN μ 9 (va_up (kN μ 9) 0 x))) := by
  refine ⟨_, hM.at 100 (by decide), Nat.le_of_ble_eq_true rfl, hM.upd (k := 100) (by decide) ?_ ?_ hw⟩
  · rfl
  · intro j hj hne
    simp only [dIds, List.mem_cons, List.not_mem_nil, or_false] at hj
    rcases hj with rfl | rfl | rfl | rfl | rfl | rfl | rfl | rfl | rfl | rfl | rfl | rfl | rfl | rfl | rfl | rfl | rfl | rfl | rfl | rfl | rfl | rfl | rfl | rfl
    all_goals first | rfl | exact absurd rfl hne
theorem p_m24 (hM : DRep c P h0 B μ h) (x : Nat) (hw : dWF (sN μ 24 (va_up (kN μ 24) 0 x))) : mFp h (B 100) 8 24 (.int (nI x)) (DRep c P h0 B (sN μ 24 (va_up (kN μ 24) 0 x))) := by
  refine ⟨_, hM.at 100 (by decide), Nat.le_of_ble_eq_true rfl, hM.upd (k := 100) (by decide) ?_ ?_ hw⟩
  · rfl
  · intro j hj hne
    simp only [dIds, List.mem_cons, List.not_mem_nil, or_false] at hj
    rcases hj with rfl | rfl | rfl | rfl | rfl | rfl | rfl | rfl | rfl | rfl | rfl | rfl | rfl | rfl | rfl | rfl | rfl | rfl | rfl | rfl | rfl | rfl | rfl | rfl
    all_goals first | rfl | exact absurd rfl hne
theorem p_m25 (hM : DRep c P h0 B μ h) (x : Int32) : mFp h (B 100) 8 25 (.int x) (DRep c P h0 B (sI μ 25 (va_up (kI μ 25) 0 x))) := by
  refine ⟨_, hM.at 100 (by decide), Nat.le_of_ble_eq_true rfl, hM.upd (k := 100) (by decide) ?_ ?_ ?_⟩
  · rfl
  · intro j hj hne
    simp only [dIds, List.mem_cons, List.not_mem_nil, or_false] at hj
    rcases hj with rfl | rfl | rfl | rfl | rfl | rfl | rfl | rfl | rfl | rfl | rfl | rfl | rfl | rfl | rfl | rfl | rfl | rfl | rfl | rfl | rfl | rfl | rfl | rfl
    all_goals first | rfl | exact absurd rfl hne
  · exact hM.wf
theorem p_m27 (hM : DRep c P h0 B μ h) (x : Int32) : mFp h (B 100) 8 27 (.int x) (DRep c P h0 B (sI μ 27 (va_up (kI μ 27) 0 x))) := by
  refine ⟨_, hM.at 100 (by decide), Nat.le_of_ble_eq_true rfl, hM.upd (k := 100) (by decide) ?_ ?_ ?_⟩
  · rfl
  · intro j hj hne
    simp only [dIds, List.mem_cons, List.not_mem_nil, or_false] at hj
    rcases hj with rfl | rfl | rfl | rfl | rfl | rfl | rfl | rfl | rfl | rfl | rfl | rfl | rfl | rfl | rfl | rfl | rfl | rfl | rfl | rfl | rfl | rfl | rfl | rfl
    all_goals first | rfl | exact absurd rfl hne
  · exact hM.wf
theorem p_m28 (hM : DRep c P h0 B μ h) (x : Int32) : mFp h (B 100) 8 28 (.int x) (DRep c P h0 B (sI μ 28 (va_up (kI μ 28) 0 x))) := by
  refine ⟨_, hM.at 100 (by decide), Nat.le_of_ble_eq_true rfl, hM.upd (k := 100) (by decide) ?_ ?_ ?_⟩
  · rfl
  · intro j hj hne
    simp only [dIds, List.mem_cons, List.not_mem_nil, or_false] at hj
    rcases hj with rfl | rfl | rfl | rfl | rfl | rfl | rfl | rfl | rfl | rfl | rfl | rfl | rfl | rfl | rfl | rfl | rfl | rfl | rfl | rfl | rfl | rfl | rfl | rfl
    all_goals first | rfl | exact absurd rfl hne
  · exact hM.wf
theorem p_m29 (hM : DRep c P h0 B μ h) (x : Int32) : mFp h (B 100) 8 29 (.int x) (DRep c P h0 B (sI μ 29 (va_up (kI μ 29) 0 x))) := by
  refine ⟨_, hM.at 100 (by decide), Nat.le_of_ble_eq_true rfl, hM.upd (k := 100) (by decide) ?_ ?_ ?_⟩
  · rfl
  · intro j hj hne
    simp only [dIds, List.mem_cons, List.not_mem_nil, or_false] at hj
    rcases hj with rfl | rfl | rfl | rfl | rfl | rfl | rfl | rfl | rfl | rfl | rfl | rfl | rfl | rfl | rfl | rfl | rfl | rfl | rfl | rfl | rfl | rfl | rfl | rfl
    all_goals first | rfl | exact absurd rfl hne
  · exact hM.wf
theorem p_m33 (hM : DRep c P h0 B μ h) (x : Int32) : mFp h (B 100) 8 33 (.int x) (DRep c P h0 B (sI μ 33 (va_up (kI μ 33) 0 x))) := by
  refine ⟨_, hM.at 100 (by decide), Nat.le_of_ble_eq_true rfl, hM.upd (k := 100) (by decide) ?_ ?_ ?_⟩
  · rfl
  · intro j hj hne
    simp only [dIds, List.mem_cons, List.not_mem_nil, or_false] at hj
    rcases hj with rfl | rfl | rfl | rfl | rfl | rfl | rfl | rfl | rfl | rfl | rfl | rfl | rfl | rfl | rfl | rfl | rfl | rfl | rfl | rfl | rfl | rfl | rfl | rfl
    all_goals first | rfl | exact absurd rfl hne
  · exact hM.wf
theorem q_m1 (hM : DRep c P h0 B μ h) {t : Nat} (ht : t < 3) (x : Int32) : mAp h (B 1) c.1 3 (.inl (fun j => kI μ 1 j)) (.inl (upd (fun j => kI μ 1 j) (nI t).toNatClampNeg x)) (DRep c P h0 B (sI μ 1 (va_up (kI μ 1) t x))) := by
  refine ⟨hM.at 1 (by decide), hM.upd (k := 1) (by decide) ?_ ?_ ?_⟩
  · rw [upd_nI (g := fun j => kI (sI μ 1 (va_up (kI μ 1) t x)) 1 j) (by omega) (by simp [sI, kI, va_up]) (by intro j e; simp [sI, kI, va_up, e])]
    rfl
  · intro j hj hne
    simp only [dIds, List.mem_cons, List.not_mem_nil, or_false] at hj
    rcases hj with rfl | rfl | rfl | rfl | rfl | rfl | rfl | rfl | rfl | rfl | rfl | rfl | rfl | rfl | rfl | rfl | rfl | rfl | rfl | rfl | rfl | rfl | rfl | rfl
    all_goals first | rfl | exact absurd rfl hne
  · exact hM.wf
theorem q_m2 (hM : DRep c P h0 B μ h) {t : Nat} (ht : t < 3) (x : Int32) : mAp h (B 2) c.1 3 (.inl (fun j => kI μ 2 j)) (.inl (upd (fun j => kI μ 2 j) (nI t).toNatClampNeg x)) (DRep c P h0 B (sI μ 2 (va_up (kI μ 2) t x))) := by
  refine ⟨hM.at 2 (by decide), hM.upd (k := 2) (by decide) ?_ ?_ ?_⟩
  · rw [upd_nI (g := fun j => kI (sI μ 2 (va_up (kI μ 2) t x)) 2 j) (by omega) (by simp [sI, kI, va_up]) (by intro j e; simp [sI, kI, va_up, e])]
    rfl
  · intro j hj hne
    simp only [dIds, List.mem_cons, List.not_mem_nil, or_false] at hj
    rcases hj with rfl | rfl | rfl | rfl | rfl | rfl | rfl | rfl | rfl | rfl | rfl | rfl | rfl | rfl | rfl | rfl | rfl | rfl | rfl | rfl | rfl | rfl | rfl | rfl
    all_goals first | rfl | exact absurd rfl hne
  · exact hM.wf
theorem q_m6 (hM : DRep c P h0 B μ h) {t : Nat} (ht : t < 6) (x : Nat) (hw : dWF (sN μ 6 (va_up (kN μ 6) t x))) : mAp h (B 6) c.1 6 (.inl (fun j => nI (kN μ 6 j))) (.inl (upd (fun j => nI (kN μ 6 j)) (nI t).toNatClampNeg (nI x))) (DRep c P h0 B (sN μ 6 (va_up (kN μ 6) t x))) := by
  refine ⟨hM.at 6 (by decide), hM.upd (k := 6) (by decide) ?_ ?_ hw⟩
  · rw [upd_nI (g := fun j => nI (kN (sN μ 6 (va_up (kN μ 6) t x)) 6 j)) (by omega) (by simp [sN, kN, va_up]) (by intro j e; simp [sN, kN, va_up, e])]
    rfl
  · intro j hj hne
    simp only [dIds, List.mem_cons, List.not_mem_nil, or_false] at hj
    rcases hj with rfl | rfl | rfl | rfl | rfl | rfl | rfl | rfl | rfl | rfl | rfl | rfl | rfl | rfl | rfl | rfl | rfl | rfl | rfl | rfl | rfl | rfl | rfl | rfl
    all_goals first | rfl | exact absurd rfl hne
theorem q_m7 (hM : DRep c P h0 B μ h) {t : Nat} (ht : t < 6) (x : Int32) : mAp h (B 7) c.1 6 (.inl (fun j => kI μ 7 j)) (.inl (upd (fun j => kI μ 7 j) (nI t).toNatClampNeg x)) (DRep c P h0 B (sI μ 7 (va_up (kI μ 7) t x))) := by
  refine ⟨hM.at 7 (by decide), hM.upd (k := 7) (by decide) ?_ ?_ ?_⟩
  · rw [upd_nI (g := fun j => kI (sI μ 7 (va_up (kI μ 7) t x)) 7 j) (by omega) (by simp [sI, kI, va_up]) (by intro j e; simp [sI, kI, va_up, e])]
    rfl
  · intro j hj hne
    simp only [dIds, List.mem_cons, List.not_mem_nil, or_false] at hj
    rcases hj with rfl | rfl | rfl | rfl | rfl | rfl | rfl | rfl | rfl | rfl | rfl | rfl | rfl | rfl | rfl | rfl | rfl | rfl | rfl | rfl | rfl | rfl | rfl | rfl
    all_goals first | rfl | exact absurd rfl hne
  · exact hM.wf
theorem q_m8 (hM : DRep c P h0 B μ h) {t : Nat} (ht : t < 6) (x : Int64) : mAp h (B 8) c.2.1 6 (.inr (.inl (fun j => kW μ 8 j))) (.inr (.inl (vp_updL (fun j => kW μ 8 j) (nI t).toNatClampNeg x))) (DRep c P h0 B (sW μ 8 (va_up (kW μ 8) t x))) := by
  refine ⟨hM.at 8 (by decide), hM.upd (k := 8) (by decide) ?_ ?_ ?_⟩
  · rw [updL_nI (g := fun j => kW (sW μ 8 (va_up (kW μ 8) t x)) 8 j) (by omega) (by simp [sW, kW, va_up]) (by intro j e; simp [sW, kW, va_up, e])]
    rfl
  · intro j hj hne
    simp only [dIds, List.mem_cons, List.not_mem_nil, or_false] at hj
    rcases hj with rfl | rfl | rfl | rfl | rfl | rfl | rfl | rfl | rfl | rfl | rfl | rfl | rfl | rfl | rfl | rfl | rfl | rfl | rfl | rfl | rfl | rfl | rfl | rfl
    all_goals first | rfl | exact absurd rfl hne
  · exact hM.wf
theorem q_m10 (hM : DRep c P h0 B μ h) {t : Nat} (ht : t < 12) (x : Nat) (hw : dWF (sN μ 10 (va_up (kN μ 10) t x))) : mAp h (B 10) c.1 12 (.inl (fun j => nI (kN μ 10 j))) (.inl (upd (fun j => nI (kN μ 10 j)) (nI t).toNatClampNeg (nI x))) (DRep c P h0 B (sN μ 10 (va_up (kN μ 10) t x))) := by
  refine ⟨hM.at 10 (by decide), hM.upd (k := 10) (by decide) ?_ ?_ hw⟩
  · rw [upd_nI (g := fun j => nI (kN (sN μ 10 (va_up (kN μ 10) t x)) 10 j)) (by omega) (by simp [sN, kN, va_up]) (by intro j e; simp [sN, kN, va_up, e])]
    rfl
  · intro j hj hne
    simp only [dIds, List.mem_cons, List.not_mem_nil, or_false] at hj
    rcases hj with rfl | rfl | rfl | rfl | rfl | rfl | rfl | rfl | rfl | rfl | rfl | rfl | rfl | rfl | rfl | rfl | rfl | rfl | rfl | rfl | rfl | rfl | rfl | rfl
    all_goals first | rfl | exact absurd rfl hne
theorem q_m11 (hM : DRep c P h0 B μ h) {t : Nat} (ht : t < 12) (x : Int32) : mAp h (B 11) c.1 12 (.inl (fun j => kI μ 11 j)) (.inl (upd (fun j => kI μ 11 j) (nI t).toNatClampNeg x)) (DRep c P h0 B (sI μ 11 (va_up (kI μ 11) t x))) := by
  refine ⟨hM.at 11 (by decide), hM.upd (k := 11) (by decide) ?_ ?_ ?_⟩
  · rw [upd_nI (g := fun j => kI (sI μ 11 (va_up (kI μ 11) t x)) 11 j) (by omega) (by simp [sI, kI, va_up]) (by intro j e; simp [sI, kI, va_up, e])]
    rfl
  · intro j hj hne
    simp only [dIds, List.mem_cons, List.not_mem_nil, or_false] at hj
    rcases hj with rfl | rfl | rfl | rfl | rfl | rfl | rfl | rfl | rfl | rfl | rfl | rfl | rfl | rfl | rfl | rfl | rfl | rfl | rfl | rfl | rfl | rfl | rfl | rfl
    all_goals first | rfl | exact absurd rfl hne
  · exact hM.wf
theorem q_m12 (hM : DRep c P h0 B μ h) {t : Nat} (ht : t < 12) (x : Int64) : mAp h (B 12) c.2.1 12 (.inr (.inl (fun j => kW μ 12 j))) (.inr (.inl (vp_updL (fun j => kW μ 12 j) (nI t).toNatClampNeg x))) (DRep c P h0 B (sW μ 12 (va_up (kW μ 12) t x))) := by
  refine ⟨hM.at 12 (by decide), hM.upd (k := 12) (by decide) ?_ ?_ ?_⟩
  · rw [updL_nI (g := fun j => kW (sW μ 12 (va_up (kW μ 12) t x)) 12 j) (by omega) (by simp [sW, kW, va_up]) (by intro j e; simp [sW, kW, va_up, e])]
    rfl
  · intro j hj hne
    simp only [dIds, List.mem_cons, List.not_mem_nil, or_false] at hj
    rcases hj with rfl | rfl | rfl | rfl | rfl | rfl | rfl | rfl | rfl | rfl | rfl | rfl | rfl | rfl | rfl | rfl | rfl | rfl | rfl | rfl | rfl | rfl | rfl | rfl
    all_goals first | rfl | exact absurd rfl hne
  · exact hM.wf
theorem q_m13 (hM : DRep c P h0 B μ h) {t : Nat} (ht : t < 12) (x : Int32) : mAp h (B 13) c.1 12 (.inl (fun j => kI μ 13 j)) (.inl (upd (fun j => kI μ 13 j) (nI t).toNatClampNeg x)) (DRep c P h0 B (sI μ 13 (va_up (kI μ 13) t x))) := by
  refine ⟨hM.at 13 (by decide), hM.upd (k := 13) (by decide) ?_ ?_ ?_⟩
  · rw [upd_nI (g := fun j => kI (sI μ 13 (va_up (kI μ 13) t x)) 13 j) (by omega) (by simp [sI, kI, va_up]) (by intro j e; simp [sI, kI, va_up, e])]
    rfl
  · intro j hj hne
    simp only [dIds, List.mem_cons, List.not_mem_nil, or_false] at hj
    rcases hj with rfl | rfl | rfl | rfl | rfl | rfl | rfl | rfl | rfl | rfl | rfl | rfl | rfl | rfl | rfl | rfl | rfl | rfl | rfl | rfl | rfl | rfl | rfl | rfl
    all_goals first | rfl | exact absurd rfl hne
  · exact hM.wf
theorem q_m14 (hM : DRep c P h0 B μ h) {t : Nat} (ht : t < 12) (x : Int32) : mAp h (B 14) c.1 12 (.inl (fun j => kI μ 14 j)) (.inl (upd (fun j => kI μ 14 j) (nI t).toNatClampNeg x)) (DRep c P h0 B (sI μ 14 (va_up (kI μ 14) t x))) := by
  refine ⟨hM.at 14 (by decide), hM.upd (k := 14) (by decide) ?_ ?_ ?_⟩
  · rw [upd_nI (g := fun j => kI (sI μ 14 (va_up (kI μ 14) t x)) 14 j) (by omega) (by simp [sI, kI, va_up]) (by intro j e; simp [sI, kI, va_up, e])]
    rfl
  · intro j hj hne
    simp only [dIds, List.mem_cons, List.not_mem_nil, or_false] at hj
    rcases hj with rfl | rfl | rfl | rfl | rfl | rfl | rfl | rfl | rfl | rfl | rfl | rfl | rfl | rfl | rfl | rfl | rfl | rfl | rfl | rfl | rfl | rfl | rfl | rfl
    all_goals first | rfl | exact absurd rfl hne
  · exact hM.wf
theorem q_m15 (hM : DRep c P h0 B μ h) {t : Nat} (ht : t < 12) (x : Int32) : mAp h (B 15) c.1 12 (.inl (fun j => kI μ 15 j)) (.inl (upd (fun j => kI μ 15 j) (nI t).toNatClampNeg x)) (DRep c P h0 B (sI μ 15 (va_up (kI μ 15) t x))) := by
  refine ⟨hM.at 15 (by decide), hM.upd (k := 15) (by decide) ?_ ?_ ?_⟩
  · rw [upd_nI (g := fun j => kI (sI μ 15 (va_up (kI μ 15) t x)) 15 j) (by omega) (by simp [sI, kI, va_up]) (by intro j e; simp [sI, kI, va_up, e])]
    rfl
  · intro j hj hne
    simp only [dIds, List.mem_cons, List.not_mem_nil, or_false] at hj
    rcases hj with rfl | rfl | rfl | rfl | rfl | rfl | rfl | rfl | rfl | rfl | rfl | rfl | rfl | rfl | rfl | rfl | rfl | rfl | rfl | rfl | rfl | rfl | rfl | rfl
    all_goals first | rfl | exact absurd rfl hne
  · exact hM.wf
theorem q_m16 (hM : DRep c P h0 B μ h) {t : Nat} (ht : t < 12) (x : Int32) : mAp h (B 16) c.1 12 (.inl (fun j => kI μ 16 j)) (.inl (upd (fun j => kI μ 16 j) (nI t).toNatClampNeg x)) (DRep c P h0 B (sI μ 16 (va_up (kI μ 16) t x))) := by
  refine ⟨hM.at 16 (by decide), hM.upd (k := 16) (by decide) ?_ ?_ ?_⟩
  · rw [upd_nI (g := fun j => kI (sI μ 16 (va_up (kI μ 16) t x)) 16 j) (by omega) (by simp [sI, kI, va_up]) (by intro j e; simp [sI, kI, va_up, e])]
    rfl
  · intro j hj hne
    simp only [dIds, List.mem_cons, List.not_mem_nil, or_false] at hj
    rcases hj with rfl | rfl | rfl | rfl | rfl | rfl | rfl | rfl | rfl | rfl | rfl | rfl | rfl | rfl | rfl | rfl | rfl | rfl | rfl | rfl | rfl | rfl | rfl | rfl
    all_goals first | rfl | exact absurd rfl hne
  · exact hM.wf
theorem q_m17 (hM : DRep c P h0 B μ h) {t : Nat} (ht : t < 12) (x : Int32) : mAp h (B 17) c.1 12 (.inl (fun j => kI μ 17 j)) (.inl (upd (fun j => kI μ 17 j) (nI t).toNatClampNeg x)) (DRep c P h0 B (sI μ 17 (va_up (kI μ 17) t x))) := by
  refine ⟨hM.at 17 (by decide), hM.upd (k := 17) (by decide) ?_ ?_ ?_⟩
  · rw [upd_nI (g := fun j => kI (sI μ 17 (va_up (kI μ 17) t x)) 17 j) (by omega) (by simp [sI, kI, va_up]) (by intro j e; simp [sI, kI, va_up, e])]
    rfl
  · intro j hj hne
    simp only [dIds, List.mem_cons, List.not_mem_nil, or_false] at hj
    rcases hj with rfl | rfl | rfl | rfl | rfl | rfl | rfl | rfl | rfl | rfl | rfl | rfl | rfl | rfl | rfl | rfl | rfl | rfl | rfl | rfl | rfl | rfl | rfl | rfl
    all_goals first | rfl | exact absurd rfl hne
  · exact hM.wf
theorem q_m18 (hM : DRep c P h0 B μ h) {t : Nat} (ht : t < 12) (x : Int32) : mAp h (B 18) c.1 12 (.inl (fun j => kI μ 18 j)) (.inl (upd (fun j => kI μ 18 j) (nI t).toNatClampNeg x)) (DRep c P h0 B (sI μ 18 (va_up (kI μ 18) t x))) := by
  refine ⟨hM.at 18 (by decide), hM.upd (k := 18) (by decide) ?_ ?_ ?_⟩
  · rw [upd_nI (g := fun j => kI (sI μ 18 (va_up (kI μ 18) t x)) 18 j) (by omega) (by simp [sI, kI, va_up]) (by intro j e; simp [sI, kI, va_up, e])]
    rfl
  · intro j hj hne
    simp only [dIds, List.mem_cons, List.not_mem_nil, or_false] at hj
    rcases hj with rfl | rfl | rfl | rfl | rfl | rfl | rfl | rfl | rfl | rfl | rfl | rfl | rfl | rfl | rfl | rfl | rfl | rfl | rfl | rfl | rfl | rfl | rfl | rfl
    all_goals first | rfl | exact absurd rfl hne
  · exact hM.wf
theorem q_m19 (hM : DRep c P h0 B μ h) {t : Nat} (ht : t < 12) (x : Int32) : mAp h (B 19) c.1 12 (.inl (fun j => kI μ 19 j)) (.inl (upd (fun j => kI μ 19 j) (nI t).toNatClampNeg x)) (DRep c P h0 B (sI μ 19 (va_up (kI μ 19) t x))) := by
  refine ⟨hM.at 19 (by decide), hM.upd (k := 19) (by decide) ?_ ?_ ?_⟩
  · rw [upd_nI (g := fun j => kI (sI μ 19 (va_up (kI μ 19) t x)) 19 j) (by omega) (by simp [sI, kI, va_up]) (by intro j e; simp [sI, kI, va_up, e])]
    rfl
  · intro j hj hne
    simp only [dIds, List.mem_cons, List.not_mem_nil, or_false] at hj
    rcases hj with rfl | rfl | rfl | rfl | rfl | rfl | rfl | rfl | rfl | rfl | rfl | rfl | rfl | rfl | rfl | rfl | rfl | rfl | rfl | rfl | rfl | rfl | rfl | rfl
    all_goals first | rfl | exact absurd rfl hne
  · exact hM.wf
theorem q_m20 (hM : DRep c P h0 B μ h) {t : Nat} (ht : t < 12) (x : Option Nat) : mAp h (B 20) c.1 12 (.inl (fun j => oI (kO μ 20 j))) (.inl (upd (fun j => oI (kO μ 20 j)) (nI t).toNatClampNeg (oI x))) (DRep c P h0 B (sO μ 20 (va_up (kO μ 20) t x))) := by
  refine ⟨hM.at 20 (by decide), hM.upd (k := 20) (by decide) ?_ ?_ ?_⟩
  · rw [upd_nI (g := fun j => oI (kO (sO μ 20 (va_up (kO μ 20) t x)) 20 j)) (by omega) (by simp [sO, kO, va_up]) (by intro j e; simp [sO, kO, va_up, e])]
    rfl
  · intro j hj hne
    simp only [dIds, List.mem_cons, List.not_mem_nil, or_false] at hj
    rcases hj with rfl | rfl | rfl | rfl | rfl | rfl | rfl | rfl | rfl | rfl | rfl | rfl | rfl | rfl | rfl | rfl | rfl | rfl | rfl | rfl | rfl | rfl | rfl | rfl
    all_goals first | rfl | exact absurd rfl hne
  · exact hM.wf
theorem q_m21 (hM : DRep c P h0 B μ h) {t : Nat} (ht : t < 12) (x : Bool) : mAp h (B 21) c.2.2.1 12 (.inl (fun j => bI (kB μ 21 j))) (.inl (upd (fun j => bI (kB μ 21 j)) (nI t).toNatClampNeg (bI x))) (DRep c P h0 B (sB μ 21 (va_up (kB μ 21) t x))) := by
  refine ⟨hM.at 21 (by decide), hM.upd (k := 21) (by decide) ?_ ?_ ?_⟩
  · rw [upd_nI (g := fun j => bI (kB (sB μ 21 (va_up (kB μ 21) t x)) 21 j)) (by omega) (by simp [sB, kB, va_up]) (by intro j e; simp [sB, kB, va_up, e])]
    rfl
  · intro j hj hne
    simp only [dIds, List.mem_cons, List.not_mem_nil, or_false] at hj
    rcases hj with rfl | rfl | rfl | rfl | rfl | rfl | rfl | rfl | rfl | rfl | rfl | rfl | rfl | rfl | rfl | rfl | rfl | rfl | rfl | rfl | rfl | rfl | rfl | rfl
    all_goals first | rfl | exact absurd rfl hne
  · exact hM.wf
theorem q_m22 (hM : DRep c P h0 B μ h) {t : Nat} (ht : t < 12) (x : Option Nat) (hw : dWF (sO μ 22 (va_up (kO μ 22) t x))) : mAp h (B 22) c.1 12 (.inl (fun j => oI (kO μ 22 j))) (.inl (upd (fun j => oI (kO μ 22 j)) (nI t).toNatClampNeg (oI x))) (DRep c P h0 B (sO μ 22 (va_up (kO μ 22) t x))) := by
  refine ⟨hM.at 22 (by decide), hM.upd (k := 22) (by decide) ?_ ?_ hw⟩
  · rw [upd_nI (g := fun j => oI (kO (sO μ 22 (va_up (kO μ 22) t x)) 22 j)) (by omega) (by simp [sO, kO, va_up]) (by intro j e; simp [sO, kO, va_up, e])]
    rfl
  · intro j hj hne
    simp only [dIds, List.mem_cons, List.not_mem_nil, or_false] at hj
    rcases hj with rfl | rfl | rfl | rfl | rfl | rfl | rfl | rfl | rfl | rfl | rfl | rfl | rfl | rfl | rfl | rfl | rfl | rfl | rfl | rfl | rfl | rfl | rfl | rfl
    all_goals first | rfl | exact absurd rfl hne
theorem q_m23 (hM : DRep c P h0 B μ h) {t : Nat} (ht : t < 12) (x : Int32) : mAp h (B 23) c.1 12 (.inl (fun j => kI μ 23 j)) (.inl (upd (fun j => kI μ 23 j) (nI t).toNatClampNeg x)) (DRep c P h0 B (sI μ 23 (va_up (kI μ 23) t x))) := by
  refine ⟨hM.at 23 (by decide), hM.upd (k := 23) (by decide) ?_ ?_ ?_⟩
  · rw [upd_nI (g := fun j => kI (sI μ 23 (va_up (kI μ 23) t x)) 23 j) (by omega) (by simp [sI, kI, va_up]) (by intro j e; simp [sI, kI, va_up, e])]
    rfl
  · intro j hj hne
    simp only [dIds, List.mem_cons, List.not_mem_nil, or_false] at hj
    rcases hj with rfl | rfl | rfl | rfl | rfl | rfl | rfl | rfl | rfl | rfl | rfl | rfl | rfl | rfl | rfl | rfl | rfl | rfl | rfl | rfl | rfl | rfl | rfl | rfl
    all_goals first | rfl | exact absurd rfl hne
  · exact hM.wf
theorem q_m26 (hM : DRep c P h0 B μ h) {t : Nat} (ht : t < 4) (x : Option Nat) (hw : dWF (sO μ 26 (va_up (kO μ 26) t x))) : mAp h (B 26) c.1 4 (.inl (fun j => oI (kO μ 26 j))) (.inl (upd (fun j => oI (kO μ 26 j)) (nI t).toNatClampNeg (oI x))) (DRep c P h0 B (sO μ 26 (va_up (kO μ 26) t x))) := by
  refine ⟨hM.at 26 (by decide), hM.upd (k := 26) (by decide) ?_ ?_ hw⟩
  · rw [upd_nI (g := fun j => oI (kO (sO μ 26 (va_up (kO μ 26) t x)) 26 j)) (by omega) (by simp [sO, kO, va_up]) (by intro j e; simp [sO, kO, va_up, e])]
    rfl
  · intro j hj hne
    simp only [dIds, List.mem_cons, List.not_mem_nil, or_false] at hj
    rcases hj with rfl | rfl | rfl | rfl | rfl | rfl | rfl | rfl | rfl | rfl | rfl | rfl | rfl | rfl | rfl | rfl | rfl | rfl | rfl | rfl | rfl | rfl | rfl | rfl
    all_goals first | rfl | exact absurd rfl hne
theorem q_m30 (hM : DRep c P h0 B μ h) {t : Nat} (ht : t < 3) (x : Option Nat) : mAp h (B 30) c.1 3 (.inl (fun j => oI (kO μ 30 j))) (.inl (upd (fun j => oI (kO μ 30 j)) (nI t).toNatClampNeg (oI x))) (DRep c P h0 B (sO μ 30 (va_up (kO μ 30) t x))) := by
  refine ⟨hM.at 30 (by decide), hM.upd (k := 30) (by decide) ?_ ?_ ?_⟩
  · rw [upd_nI (g := fun j => oI (kO (sO μ 30 (va_up (kO μ 30) t x)) 30 j)) (by omega) (by simp [sO, kO, va_up]) (by intro j e; simp [sO, kO, va_up, e])]
    rfl
  · intro j hj hne
    simp only [dIds, List.mem_cons, List.not_mem_nil, or_false] at hj
    rcases hj with rfl | rfl | rfl | rfl | rfl | rfl | rfl | rfl | rfl | rfl | rfl | rfl | rfl | rfl | rfl | rfl | rfl | rfl | rfl | rfl | rfl | rfl | rfl | rfl
    all_goals first | rfl | exact absurd rfl hne
  · exact hM.wf
theorem q_m31 (hM : DRep c P h0 B μ h) {t : Nat} (ht : t < 12) (x : Int32) : mAp h (B 31) c.1 12 (.inl (fun j => kI μ 31 j)) (.inl (upd (fun j => kI μ 31 j) (nI t).toNatClampNeg x)) (DRep c P h0 B (sI μ 31 (va_up (kI μ 31) t x))) := by
  refine ⟨hM.at 31 (by decide), hM.upd (k := 31) (by decide) ?_ ?_ ?_⟩
  · rw [upd_nI (g := fun j => kI (sI μ 31 (va_up (kI μ 31) t x)) 31 j) (by omega) (by simp [sI, kI, va_up]) (by intro j e; simp [sI, kI, va_up, e])]
    rfl
  · intro j hj hne
    simp only [dIds, List.mem_cons, List.not_mem_nil, or_false] at hj
    rcases hj with rfl | rfl | rfl | rfl | rfl | rfl | rfl | rfl | rfl | rfl | rfl | rfl | rfl | rfl | rfl | rfl | rfl | rfl | rfl | rfl | rfl | rfl | rfl | rfl
    all_goals first | rfl | exact absurd rfl hne
  · exact hM.wf
theorem q_m32 (hM : DRep c P h0 B μ h) {t : Nat} (ht : t < 12) (x : Bool) : mAp h (B 32) c.2.2.1 12 (.inl (fun j => bI (kB μ 32 j))) (.inl (upd (fun j => bI (kB μ 32 j)) (nI t).toNatClampNeg (bI x))) (DRep c P h0 B (sB μ 32 (va_up (kB μ 32) t x))) := by
  refine ⟨hM.at 32 (by decide), hM.upd (k := 32) (by decide) ?_ ?_ ?_⟩
  · rw [upd_nI (g := fun j => bI (kB (sB μ 32 (va_up (kB μ 32) t x)) 32 j)) (by omega) (by simp [sB, kB, va_up]) (by intro j e; simp [sB, kB, va_up, e])]
    rfl
  · intro j hj hne
    simp only [dIds, List.mem_cons, List.not_mem_nil, or_false] at hj
    rcases hj with rfl | rfl | rfl | rfl | rfl | rfl | rfl | rfl | rfl | rfl | rfl | rfl | rfl | rfl | rfl | rfl | rfl | rfl | rfl | rfl | rfl | rfl | rfl | rfl
    all_goals first | rfl | exact absurd rfl hne
  · exact hM.wf
end DR
