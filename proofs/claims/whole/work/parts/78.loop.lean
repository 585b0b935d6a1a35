/-! THE LAW'S LOOP AND ITS START -/
theorem law_op (x : Int32) : ∃ k : Nat, k < 64 ∧ x &&& 63 = nI k := by
  refine ⟨(x.toBitVec &&& 63#32).toNat, ?_, ?_⟩
  · rw [BitVec.toNat_and]
    exact Nat.lt_of_le_of_lt Nat.and_le_right (by decide)
  · apply Int32.toBitVec_inj.mp
    show x.toBitVec &&& 63#32 = BitVec.ofNat 32 _
    rw [BitVec.ofNat_toNat]
    simp
theorem law_gt {L i : Nat} (hL : L ≤ 2560) (hi : i ≤ 3000) (h : ¬ (nI L - 5 < nI i)) : i + 5 ≤ L := by
  rcases Nat.lt_or_ge L 5 with h5 | h5
  · exfalso
    apply h
    have z : (0 : Int32) ≤ nI i := nI_pos' (by omega)
    refine Int32.lt_of_lt_of_le ?_ z
    rcases (by omega : L = 0 ∨ L = 1 ∨ L = 2 ∨ L = 3 ∨ L = 4) with rfl | rfl | rfl | rfl | rfl <;> decide
  · obtain ⟨k, rfl⟩ : ∃ k, L = k + 5 := ⟨L - 5, by omega⟩
    have e : nI (k + 5) - 5 = nI k := by
      rw [← nI_add k 5, show nI 5 = (5 : Int32) from rfl, Int32.add_sub_cancel]
    rw [e, nI_ltI (by omega) (by omega)] at h
    omega
set_option maxRecDepth 100000 in
set_option maxHeartbeats 4000000 in
theorem law_loop {p : Program} {l : Launch} {e : Env} {s : State} {m : MethodId} {below : List Frame} {meth : Method} {c : Code} {b L : Nat} {xs : Nat → Int32} {D : va_G} {cs : mC} {df : Nat} {A : Nat → Prop} (C : LC p l s m c b L xs D cs df A) {Rl : Nat → KS → KS → Prop} (R : SimP Rl) {c0 m0 o1 o2 : Nat} {Q : State → Prop}
    (hend : ∀ (H : Heap) (locs : List Loc) (cells slots : Nat) (ls : Array Slot), va_S A s.heap H locs → cells ≤ 603072 → slots ≤ 7223402 → W p l e room_1 s m #[Value.ref b] below meth c H locs cells slots Q (F0 m 1908 ls [])) :
    ∀ (n j : Nat), 5 * j ≤ L → L < 5 * j + 5 * n → ∀ {σ μ : KS} {h : mH} {H : Heap} {locs : List Loc} {cells slots : Nat} {ls : Array Slot}, cells ≤ 1000 + 8 * j → slots ≤ 4000 + 400 * j → mV D h A H → va_S A s.heap H locs → DSt cs df c0 m0 o1 o2 σ μ h → Rl j σ μ → lv_has ls 9 (lawL b c0 m0 o1 o2 (5 * j)) → W p l e room_1 s m #[Value.ref b] below meth c H locs cells slots Q (F0 m 28 ls []) := by
  obtain ⟨hx, hb, hml, hown, hts, hX, hbl, hbA, hE, hN, hA, hfl, hL⟩ := id C
  intro n
  induction n with
  | zero => intro j hj hn; exact absurd hj (by omega)
  | succ n ih =>
    intro j hj hn σ μ h H locs cells slots ls hc hs hV hS hW hr hl
    refine lv_iload hx hb dL_law_28 (lv_at hl 5 rfl) ?_
    refine lv_aload_n hx hb dL_law_30 rfl (lv_at hl 0 rfl) ?_
    refine va_slen hx hb hX hbl hbA hS dL_law_31 ?_
    refine lv_iconst (v := 5) hx hb dL_law_32 (by decide) ?_
    refine lv_isub hx hb dL_law_33 ?_
    refine lv_icmp_gt (tgt := 1908) hx hb dL_law_34 (by decide) (fun _ => ?_) (fun hq => ?_)
    · exact hend H locs cells slots ls hS (by omega) (by omega)
    · have hi : 5 * j + 5 ≤ L := law_gt hL (by omega) hq
      refine lv_aload_n hx hb dL_law_37 rfl (lv_at hl 0 rfl) ?_
      refine lv_iload hx hb dL_law_38 (lv_at hl 5 rfl) ?_
      refine va_sld hx hb hX hbl hbA hS (i := nI (5 * j)) (vp_in_nI (by omega) (by omega)) dL_law_40 ?_
      refine lv_bipush (v := 63) hx hb dL_law_41 (by decide) ?_
      refine lv_iand hx hb dL_law_43 ?_
      obtain ⟨k, hk, ek⟩ := law_op (xs (nI (5 * j)).toNatClampNeg)
      rw [ek]
      have kk : ∀ (σ1 μ1 : KS) (h1 : mH) (H1 : Heap) (locs1 : List Loc) (ls1 : Array Slot), mV D h1 A H1 → va_S A s.heap H1 locs1 → DSt cs df c0 m0 o1 o2 σ1 μ1 h1 → Rl (j + 1) σ1 μ1 → lv_has ls1 9 (lawL b c0 m0 o1 o2 (5 * j)) → W p l e room_1 s m #[Value.ref b] below meth c H1 locs1 (cells + 8) (slots + 400) Q (F0 m 1902 ls1 []) := by
        intro σ1 μ1 h1 H1 locs1 ls1 hV hS hW hr hl
        have hl : lv_has ls1 9 [(0, .ref b), (1, .ref c0), (2, .ref m0), (3, .ref o1), (4, .ref o2), (5, .int (nI (5 * j)))] := hl
        refine lv_iinc (v := nI (5 * (j + 1))) (lv' := [(5, .int (nI (5 * (j + 1)))), (0, .ref b), (1, .ref c0), (2, .ref m0), (3, .ref o1), (4, .ref o2)]) hx hb dL_law_1902 hl (k := 5) rfl (show nI (5 * j) + Int32.ofInt 5 = _ from nI_add (5 * j) 5) (by decide) rfl (fun ls hl => ?_)
        refine lv_goto (tgt := 28) hx hb dL_law_1905 (by decide) ?_
        exact ih (j + 1) (by omega) (by omega) (by omega) (by omega) hV hS hW hr (lv_sub hl [1, 2, 3, 4, 5, 0] rfl)
      rcases Nat.lt_or_ge k 33 with h33 | h33
      · have : k = 0 ∨ k = 1 ∨ k = 2 ∨ k = 3 ∨ k = 4 ∨ k = 5 ∨ k = 6 ∨ k = 7 ∨ k = 8 ∨ k = 9 ∨ k = 10 ∨ k = 11 ∨ k = 12 ∨ k = 13 ∨ k = 14 ∨ k = 15 ∨ k = 16 ∨ k = 17 ∨ k = 18 ∨ k = 19 ∨ k = 20 ∨ k = 21 ∨ k = 22 ∨ k = 23 ∨ k = 24 ∨ k = 25 ∨ k = 26 ∨ k = 27 ∨ k = 28 ∨ k = 29 ∨ k = 30 ∨ k = 31 ∨ k = 32 := by omega
        rcases this with rfl | rfl | rfl | rfl | rfl | rfl | rfl | rfl | rfl | rfl | rfl | rfl | rfl | rfl | rfl | rfl | rfl | rfl | rfl | rfl | rfl | rfl | rfl | rfl | rfl | rfl | rfl | rfl | rfl | rfl | rfl | rfl | rfl
        · refine lv_tableIn (off := 148) (tgt := 192) hx hb dL_law_44 (by decide) (by decide) (by decide) (by decide) ?_
          exact law_addCore C R hV hS hW (by omega) hr hi hl (by omega) (by omega) kk
        · refine lv_tableIn (off := 204) (tgt := 248) hx hb dL_law_44 (by decide) (by decide) (by decide) (by decide) ?_
          exact law_setLimit C R hV hS hW (by omega) hr hi hl (by omega) (by omega) kk
        · refine lv_tableIn (off := 260) (tgt := 304) hx hb dL_law_44 (by decide) (by decide) (by decide) (by decide) ?_
          exact law_setCap C R hV hS hW (by omega) hr hi hl (by omega) (by omega) kk
        · refine lv_tableIn (off := 316) (tgt := 360) hx hb dL_law_44 (by decide) (by decide) (by decide) (by decide) ?_
          exact law_heat C R hV hS hW (by omega) hr hi hl (by omega) (by omega) kk
        · refine lv_tableIn (off := 372) (tgt := 416) hx hb dL_law_44 (by decide) (by decide) (by decide) (by decide) ?_
          exact law_pace C R hV hS hW (by omega) hr hi hl (by omega) (by omega) kk
        · refine lv_tableIn (off := 428) (tgt := 472) hx hb dL_law_44 (by decide) (by decide) (by decide) (by decide) ?_
          exact law_addGroup C R hV hS hW (by omega) hr hi hl (by omega) (by omega) kk
        · refine lv_tableIn (off := 496) (tgt := 540) hx hb dL_law_44 (by decide) (by decide) (by decide) (by decide) ?_
          exact law_addPlain C R hV hS hW (by omega) hr hi hl (by omega) (by omega) kk
        · refine lv_tableIn (off := 576) (tgt := 620) hx hb dL_law_44 (by decide) (by decide) (by decide) (by decide) ?_
          exact law_addTimed C R hV hS hW (by omega) hr hi hl (by omega) (by omega) kk
        · refine lv_tableIn (off := 668) (tgt := 712) hx hb dL_law_44 (by decide) (by decide) (by decide) (by decide) ?_
          exact law_end C R hV hS hW (by omega) hr hi hl (by omega) (by omega) kk
        · refine lv_tableIn (off := 724) (tgt := 768) hx hb dL_law_44 (by decide) (by decide) (by decide) (by decide) ?_
          exact law_left C R hV hS hW (by omega) hr hi hl (by omega) (by omega) kk
        · refine lv_tableIn (off := 780) (tgt := 824) hx hb dL_law_44 (by decide) (by decide) (by decide) (by decide) ?_
          exact law_stateOf C R hV hS hW (by omega) hr hi hl (by omega) (by omega) kk
        · refine lv_tableIn (off := 836) (tgt := 880) hx hb dL_law_44 (by decide) (by decide) (by decide) (by decide) ?_
          exact law_timeOf C R hV hS hW (by omega) hr hi hl (by omega) (by omega) kk
        · refine lv_tableIn (off := 891) (tgt := 935) hx hb dL_law_44 (by decide) (by decide) (by decide) (by decide) ?_
          exact law_timeOfGroup C R hV hS hW (by omega) hr hi hl (by omega) (by omega) kk
        · refine lv_tableIn (off := 946) (tgt := 990) hx hb dL_law_44 (by decide) (by decide) (by decide) (by decide) ?_
          exact law_doneBy C R hV hS hW (by omega) hr hi hl (by omega) (by omega) kk
        · refine lv_tableIn (off := 1002) (tgt := 1046) hx hb dL_law_44 (by decide) (by decide) (by decide) (by decide) ?_
          exact law_doneIn C R hV hS hW (by omega) hr hi hl (by omega) (by omega) kk
        · refine lv_tableIn (off := 1058) (tgt := 1102) hx hb dL_law_44 (by decide) (by decide) (by decide) (by decide) ?_
          exact law_admitted C R hV hS hW (by omega) hr hi hl (by omega) (by omega) kk
        · refine lv_tableIn (off := 1071) (tgt := 1115) hx hb dL_law_44 (by decide) (by decide) (by decide) (by decide) ?_
          exact law_promise C R hV hS hW (by omega) hr hi hl (by omega) (by omega) kk
        · refine lv_tableIn (off := 1084) (tgt := 1128) hx hb dL_law_44 (by decide) (by decide) (by decide) (by decide) ?_
          exact law_deadlineOf C R hV hS hW (by omega) hr hi hl (by omega) (by omega) kk
        · refine lv_tableIn (off := 1140) (tgt := 1184) hx hb dL_law_44 (by decide) (by decide) (by decide) (by decide) ?_
          exact law_urgencyOf C R hV hS hW (by omega) hr hi hl (by omega) (by omega) kk
        · refine lv_tableIn (off := 1196) (tgt := 1240) hx hb dL_law_44 (by decide) (by decide) (by decide) (by decide) ?_
          exact law_missesOf C R hV hS hW (by omega) hr hi hl (by omega) (by omega) kk
        · refine lv_tableIn (off := 1252) (tgt := 1296) hx hb dL_law_44 (by decide) (by decide) (by decide) (by decide) ?_
          exact law_misses C R hV hS hW (by omega) hr hi hl (by omega) (by omega) kk
        · refine lv_tableIn (off := 1265) (tgt := 1309) hx hb dL_law_44 (by decide) (by decide) (by decide) (by decide) ?_
          exact law_take C R hV hS hW (by omega) hr hi hl (by omega) (by omega) kk
        · refine lv_tableIn (off := 1340) (tgt := 1384) hx hb dL_law_44 (by decide) (by decide) (by decide) (by decide) ?_
          exact law_release C R hV hS hW (by omega) hr hi hl (by omega) (by omega) kk
        · refine lv_tableIn (off := 1396) (tgt := 1440) hx hb dL_law_44 (by decide) (by decide) (by decide) (by decide) ?_
          exact law_holderOf C R hV hS hW (by omega) hr hi hl (by omega) (by omega) kk
        · refine lv_tableIn (off := 1452) (tgt := 1496) hx hb dL_law_44 (by decide) (by decide) (by decide) (by decide) ?_
          exact law_waiterAt C R hV hS hW (by omega) hr hi hl (by omega) (by omega) kk
        · refine lv_tableIn (off := 1520) (tgt := 1564) hx hb dL_law_44 (by decide) (by decide) (by decide) (by decide) ?_
          exact law_choice C R hV hS hW (by omega) hr hi hl (by omega) (by omega) kk
        · refine lv_tableIn (off := 1576) (tgt := 1620) hx hb dL_law_44 (by decide) (by decide) (by decide) (by decide) ?_
          exact law_choiceByComparing C R hV hS hW (by omega) hr hi hl (by omega) (by omega) kk
        · refine lv_tableIn (off := 1632) (tgt := 1676) hx hb dL_law_44 (by decide) (by decide) (by decide) (by decide) ?_
          exact law_pass C R hV hS hW (by omega) hr hi hl (by omega) (by omega) kk
        · refine lv_tableIn (off := 1688) (tgt := 1732) hx hb dL_law_44 (by decide) (by decide) (by decide) (by decide) ?_
          exact law_now C R hV hS hW (by omega) hr hi hl (by omega) (by omega) kk
        · refine lv_tableIn (off := 1701) (tgt := 1745) hx hb dL_law_44 (by decide) (by decide) (by decide) (by decide) ?_
          exact law_moves C R hV hS hW (by omega) hr hi hl (by omega) (by omega) kk
        · refine lv_tableIn (off := 1714) (tgt := 1758) hx hb dL_law_44 (by decide) (by decide) (by decide) (by decide) ?_
          exact law_usedShare C R hV hS hW (by omega) hr hi hl (by omega) (by omega) kk
        · refine lv_tableIn (off := 1780) (tgt := 1824) hx hb dL_law_44 (by decide) (by decide) (by decide) (by decide) ?_
          exact law_meanHeat C R hV hS hW (by omega) hr hi hl (by omega) (by omega) kk
        · refine lv_tableIn (off := 1845) (tgt := 1889) hx hb dL_law_44 (by decide) (by decide) (by decide) (by decide) ?_
          exact law_isSound C R hV hS hW (by omega) hr hi hl (by omega) (by omega) kk
      · refine lv_tableOut (tgt := 1902) hx hb dL_law_44 (Or.inr (by rw [nI_toInt (by omega)]; omega)) (by decide) ?_
        exact W.widen (by omega) (by omega) (kk σ μ h H locs ls hV hS hW (R.s_up _ _ _ hr) hl)
