set_option maxRecDepth 100000 in
set_option maxHeartbeats 4000000 in
theorem law_start {p : Program} {e : Env} {s : State} {m : MethodId} {below : List Frame} {meth : Method} {c : Code} (l : Launch) (hfl : l.stackTraces = false) {b L : Nat} {xs : Nat → Int32} (hL : L ≤ 2560) (C0 : lw_At p s m meth c b L xs) {Rl : Nat → KS → KS → Prop} (R : SimP Rl) : W p l e room_1 s m #[Value.ref b] below meth c s.heap [] 0 0 (lw_Z below #[Value.ref b] s) (entryFrame m ([Value.ref b] : List Value).toArray 9) := by
  obtain ⟨hx, hb, hr, hml, hown, hts, hX, hbl, hlocks, hgv⟩ := id C0
  obtain ⟨D, cs, df, hE, hN⟩ := law_env hts hgv
  have hA : ∀ q : Nat, s.heap.size ≤ q → (fun q : Nat => s.heap.size ≤ q) q := fun _ h => h
  have hbA : ¬ (fun q : Nat => s.heap.size ≤ q) b := Nat.not_le.mpr hbl
  have hS : va_S (fun q : Nat => s.heap.size ≤ q) s.heap s.heap [] := va_S.rf
  have hK := hE.1.1
  have hV : mV D (fun _ => none) (fun q : Nat => s.heap.size ≤ q) s.heap := ⟨[], fun k q h => by simp at h, ⟨fun i j p q h => by simp at h, fun k q h => by simp at h⟩, fun a e => by simp⟩
  have C : LC p l s m c b L xs D cs df (fun q : Nat => s.heap.size ≤ q) := ⟨hx, hb, hml, hown, hts, hX, hbl, hbA, hE, hN, hA, hfl, hL⟩
  have hl := lv_entry ([.ref b]) (n := 9) (Nat.le_of_ble_eq_true rfl)
  rw [lg_entry_eq]
  generalize (lg_sl ([.ref b]) ++ List.replicate (9 - (lg_sl ([.ref b])).length) Slot.unset).toArray = ls at hl ⊢
  replace hl : lv_has ls 9 [(0, .ref b)] := hl
  refine m_newo (ci := 7) (fs := [.null, .null, .null, .null, .null, .int 0, .int 0, .int 0, .int 0, .int 0, .int 0]) (C := RX4) (T := TX4) (N := 11) hx hb hts inX4 tyX4 tyX4_ok hown (hts (.classLink RL 8 RX4) (by decide +kernel)) (hts (.instantiable RX4 11) (by decide +kernel)) (hts (.initialized RX4) (by decide +kernel)) hK hV hS hA rfl (fun j hj => match j, hj with | 0, _ => rfl | 1, _ => rfl | 2, _ => rfl | 3, _ => rfl | 4, _ => rfl | 5, _ => rfl | 6, _ => rfl | 7, _ => rfl | 8, _ => rfl | 9, _ => rfl | 10, _ => rfl | n + 11, h9 => absurd h9 (by omega)) (Nat.le_of_ble_eq_true rfl) (Nat.le_of_ble_eq_true rfl) dL_law_0 (fun q H eq hV hS => ?_)
  have hR : RW (fun _ => True) (fun _ => none) [(q, (.inr (7, [.null, .null, .null, .null, .null, .int 0, .int 0, .int 0, .int 0, .int 0, .int 0])))] (mu (fun _ => none) q (.inr (7, [.null, .null, .null, .null, .null, .int 0, .int 0, .int 0, .int 0, .int 0, .int 0]))) := RW.one (mu_s _ _ _) trivial (fun a h => absurd trivial h) (fun _ _ => trivial)
  refine lv_dup hx hb dL_law_3 rfl ?_
  refine m_callv (va_runI (As := []) (rest := [.ref q]) ⟨hx, hb, hml, hown, hts⟩ (c_X4_init (l := l) (D := D) (df := df) (H.size) q hR) (cwI 0 hts (gL_law_X4_init.up wsL_law_in) rfl rfl rfl (hts (.initialized RX4) (by decide +kernel)) (hts (.methodLink RL 111 yX4_init) (by decide +kernel)) (hts (.instanceMethod yX4_init) (by decide +kernel)) rfl (by decide +kernel) ⟨Nat.le_of_ble_eq_true rfl, Nat.le_of_ble_eq_true rfl⟩) (m_preS hE hV hS hA) rfl rfl hl.1 rfl (lv_room (by first | exact Nat.le_of_ble_eq_true rfl | simp [rf_cat, ct_ref, ct_int, ct_null, ct_long])) dL_law_4 ⟨Nat.le_of_ble_eq_true rfl, Nat.le_of_ble_eq_true rfl⟩) hV hS hA (fun h1 H locs hV hS hp _ => ?_)
  obtain ⟨L1, hL1, hC⟩ := hp
  refine lv_astore_n (lv' := [(1, .ref q), (0, .ref b)]) hx hb dL_law_7 rfl hl (by decide) rfl (fun ls hl => ?_)
  refine m_newo (ci := 8) (fs := (.int 0 :: .null :: .null :: .int 0 :: .int 0 :: .int 0 :: .null :: .null :: .null :: .int 0 :: .null :: .null :: .null :: .null :: .null :: .null :: .null :: .null :: .null :: .null :: .null :: .null :: .null :: .null :: .int 0 :: .int 0 :: .null :: .int 0 :: .int 0 :: .int 0 :: .null :: .null :: .null :: .int 0 :: [])) (C := RX5) (T := TX5) (N := 34) hx hb hts inX5 tyX5 tyX5_ok hown (hts (.classLink RL 112 RX5) (by decide +kernel)) (hts (.instantiable RX5 34) (by decide +kernel)) (hts (.initialized RX5) (by decide +kernel)) hK hV hS hA rfl (fun j hj => match j, hj with | 0, _ => rfl | 1, _ => rfl | 2, _ => rfl | 3, _ => rfl | 4, _ => rfl | 5, _ => rfl | 6, _ => rfl | 7, _ => rfl | 8, _ => rfl | 9, _ => rfl | 10, _ => rfl | 11, _ => rfl | 12, _ => rfl | 13, _ => rfl | 14, _ => rfl | 15, _ => rfl | 16, _ => rfl | 17, _ => rfl | 18, _ => rfl | 19, _ => rfl | 20, _ => rfl | 21, _ => rfl | 22, _ => rfl | 23, _ => rfl | 24, _ => rfl | 25, _ => rfl | 26, _ => rfl | 27, _ => rfl | 28, _ => rfl | 29, _ => rfl | 30, _ => rfl | 31, _ => rfl | 32, _ => rfl | 33, _ => rfl | n + 34, h9 => absurd h9 (by omega)) (Nat.le_of_ble_eq_true rfl) (Nat.le_of_ble_eq_true rfl) dL_law_8 (fun q2 H eq2 hV hS => ?_)
  have hR2 : RW (fun a => h1 a = none) h1 [(q2, (.inr (8, .int 0 :: .null :: .null :: .int 0 :: .int 0 :: .int 0 :: .null :: .null :: .null :: .int 0 :: .null :: .null :: .null :: .null :: .null :: .null :: .null :: .null :: .null :: .null :: .null :: .null :: .null :: .null :: .int 0 :: .int 0 :: .null :: .int 0 :: .int 0 :: .int 0 :: .null :: .null :: .null :: .int 0 :: [])))] (mu h1 q2 _) := RW.one (mu_s _ _ _) eq2 (fun a h => mu_n (fun z => h (by rw [z]; exact eq2))) (fun _ h => h)
  refine lv_dup hx hb dL_law_11 rfl ?_
  refine m_callv (va_runI (As := []) (rest := [.ref q2]) ⟨hx, hb, hml, hown, hts⟩ (c_X5_init (l := l) (D := D) (df := df) (H.size) q2 hR2) (cwI 0 hts (gL_law_X5_init.up wsL_law_in) rfl rfl rfl (hts (.initialized RX5) (by decide +kernel)) (hts (.methodLink RL 114 yX5_init) (by decide +kernel)) (hts (.instanceMethod yX5_init) (by decide +kernel)) rfl (by decide +kernel) ⟨Nat.le_of_ble_eq_true rfl, Nat.le_of_ble_eq_true rfl⟩) (m_preS hE hV hS hA) rfl rfl hl.1 rfl (lv_room (by first | exact Nat.le_of_ble_eq_true rfl | simp [rf_cat, ct_ref, ct_int, ct_null, ct_long])) dL_law_12 ⟨Nat.le_of_ble_eq_true rfl, Nat.le_of_ble_eq_true rfl⟩) hV hS hA (fun h3 H locs hV hS hp _ => ?_)
  obtain ⟨B, hB, hM⟩ := hp
  refine lv_astore_n (lv' := [(2, .ref q2), (1, .ref q), (0, .ref b)]) hx hb dL_law_15 rfl hl (by decide) rfl (fun ls hl => ?_)
  refine lv_iconst (v := 1) hx hb dL_law_16 (by decide) ?_
  refine m_newp (atype := .long) hx hb (hts (.arrayClass .long) (by decide +kernel)) rfl nofun hK hV hS hA 1 rfl (N' := 1) (a0 := (1, (.inr (.inl (fun _ => 0))))) (fun _ => rfl) (by decide) (by decide) (by decide) (Nat.le_of_ble_eq_true rfl) (Nat.le_of_ble_eq_true rfl) dL_law_17 (fun o1 H eo1 hV hS => ?_)
  refine lv_astore_n (lv' := [(3, .ref o1), (2, .ref q2), (1, .ref q), (0, .ref b)]) hx hb dL_law_19 rfl hl (by decide) rfl (fun ls hl => ?_)
  refine lv_iconst (v := 1) hx hb dL_law_20 (by decide) ?_
  refine m_newp (atype := .double) hx hb (hts (.arrayClass .double) (by decide +kernel)) rfl nofun hK hV hS hA 3 rfl (N' := 1) (a0 := (1, (.inr (.inr (.inr (.inl (fun _ => 0))))))) (fun _ => rfl) (by decide) (by decide) (by decide) (Nat.le_of_ble_eq_true rfl) (Nat.le_of_ble_eq_true rfl) dL_law_21 (fun o2 H eo2 hV hS => ?_)
  refine lv_astore (lv' := [(4, .ref o2), (3, .ref o1), (2, .ref q2), (1, .ref q), (0, .ref b)]) hx hb dL_law_23 hl (by decide) rfl (fun ls hl => ?_)
  refine lv_iconst (v := 0) hx hb dL_law_25 (by decide) ?_
  refine lv_istore (lv' := [(5, .int 0), (4, .ref o2), (3, .ref o1), (2, .ref q2), (1, .ref q), (0, .ref b)]) hx hb dL_law_26 hl (by decide) rfl (fun ls hl => ?_)
  have hD : DSt cs df q q2 o1 o2 init0 minit (mu (mu h3 o1 (.inl (cs.2.1, 1, .inr (.inl (fun _ => 0))))) o2 (.inl (cs.2.2.2.1, 1, .inr (.inr (.inr (.inl (fun _ => 0))))))) := by
    have n1 : ∀ a, ¬ h1 a = none → h3 a = h1 a := fun a h => hM.out h
    have n3 : ∀ a, ¬ h3 a = none → a ≠ o1 ∧ a ≠ o2 := by
      intro a h
      have z : a ≠ o1 := fun z => h (by rw [z]; exact eo1)
      refine ⟨z, fun z2 => h ?_⟩
      rw [z2]
      have := eo2
      rwa [mu_n (fun z3 => z (by rw [z2, z3]))] at this
    have n5 : ∀ a, ¬ h3 a = none → mu (mu h3 o1 (.inl (cs.2.1, 1, .inr (.inl (fun _ => 0))))) o2 (.inl (cs.2.2.2.1, 1, .inr (.inr (.inr (.inl (fun _ => 0)))))) a = h3 a := by
      intro a h
      rw [mu_n (n3 a h).2, mu_n (n3 a h).1]
    have o12 : o1 ≠ o2 := by
      intro z
      rw [← z, mu_s] at eo2
      cases eo2
    have hk : ∀ k, k ∈ dIds → ¬ h3 (B k) = none := fun k hk z => by rw [(hM.1 k hk).1] at z; cases z
    refine ⟨L1, B, hL1, hB, ?_, ?_, ⟨_, by rw [mu_n o12]; exact mu_s _ _ _⟩, ⟨_, mu_s _ _ _⟩, o12, fun k h9 => n3 _ (hk k h9)⟩
    · refine hC.to (fun a _ h9 => ⟨?_, ?_⟩) (fun a h9 z => ?_)
      · have := n1 a h9
        rw [n5 a (by rw [this]; exact h9), this]
      · intro z
        have h33 : ¬ h3 a = none := by rw [n1 a h9]; exact h9
        rcases z with ⟨k, k1, rfl⟩ | rfl | rfl
        · exact h9 (hM.1 k k1).2
        · exact (n3 _ h33).1 rfl
        · exact (n3 _ h33).2 rfl
      · rcases z with ⟨k, k1, rfl⟩ | rfl | rfl
        · rw [n5 _ (hk k k1)] at h9
          exact hk k k1 h9
        · rw [mu_n o12, mu_s] at h9
          cases h9
        · rw [mu_s] at h9
          cases h9
    · exact hM.to (fun k k1 => ⟨n5 _ (hk k k1), Or.inl ⟨k, k1, rfl⟩⟩) (fun a h9 => Or.inr h9)
  refine law_loop C R (fun H locs cells slots ls hS h5 h6 => ?_) 600 0 (by omega) (by omega) (by omega) (by omega) hV hS hD R.init (lv_sub hl [5, 4, 3, 2, 1, 0] rfl)
  refine va_forget (hS.2.2) ?_
  refine lv_iconst (v := 1) hx hb dL_law_1908 (by decide) ?_
  refine W.widen (k := 603072) (n := 7223402) h5 h6 ?_
  refine W.base ?_
  exact lw_ret (Drawn.sameBut.refl s.drawn lw_cs) hx hb hr hlocks dL_law_1909
