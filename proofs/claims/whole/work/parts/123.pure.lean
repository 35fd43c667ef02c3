/-! THE LAW: its loop -/
theorem LwI_up {v1 v2 k : Nat} {V : gV} {c s : Nat} {I : gI} {J : gL} (h : LwI v1 v2 k V c s I J) : LwI v1 v2 (k + 1) V c s I J := by
  obtain ⟨r, cv, gr, room, p, hW, hG, hT, hL, hC, hP, hB⟩ := h
  exact ⟨r, cv, gr, room, p, hW, hG, hT, hL, hC, LwP_up hP, LwB_up hB⟩
theorem bt_0 : ∀ s, s < 32 → bt 0 s = false := by decide
theorem law_first {v1 v2 : Nat} {V : gV} {c s : Nat} {I : gI} {J : gL} (hc : c ≤ 100) (hs : s ≤ 3300000) (hW : gWl v1 v2 false false false 0 V) (hC : gNewC I) (hM : gNewM I) : LwI v1 v2 1 V c s I J := by
  obtain ⟨n1, n2, n3, n4, n5, n6, n7, n8, n9, n10, n11, n12, n13, n14, n15⟩ := hC
  obtain ⟨m13, m14, m16, m17, m31, m32, m40, mz, mc⟩ := hM
  have e222 : I 222 = fun _ => 0 := mc 21 (by decide) (by decide)
  refine ⟨false, false, false, 0, 0, hW, ⟨fun _ => rfl, fun h => absurd h (by decide)⟩, ⟨0, fun _ _ => 0, by decide, n1, mz 0 (by decide), fun j hj => absurd hj (by omega)⟩, ⟨1, 2, fun _ _ => 0, by decide, by decide, by decide, by decide, n10, m31, n11, m32, fun l hl j hj => ⟨Nat.zero_lt_one, ?_, ?_⟩⟩, ⟨0, fun _ => 0, 1, by decide, n13, mz 41 (by decide), by decide, by decide, n14, m40, fun j hj => absurd hj (by omega), fun i j hi => absurd hi (by omega), fun b hb => ?_⟩, ⟨0, fun _ => 0, 1, 1, 0, 1, 1, 1, 0, fun _ _ => [], ⟨⟨by decide, by decide, by decide, by decide, by decide, by decide, Or.inr rfl, Or.inr rfl, by decide⟩, ⟨n2, n3, n4, n5, n6, n7, n8, n9⟩, ⟨mz 11 (by decide), m13, m14, mz 15 (by decide), m16, m17⟩, fun j hj => absurd hj (by omega)⟩, by decide, by decide, fun h => absurd h (by decide), fun h => absurd h (by decide)⟩, ⟨by omega, by omega⟩⟩
  · rw [n12 l hl]; rfl
  · rw [e222]; rfl
  · rw [n15, bt_0 b hb]
    exact ⟨fun h => absurd h (by decide), fun ⟨j, hj, _⟩ => absurd hj (by omega)⟩
theorem pure_law : PureLaw := by
  intro L xs b hL
  refine law_start (fun v1 v2 V c s I J hc hs hW hC hM => ?_)
  unfold wA_L_law_18
  refine ⟨fun v V c s I J => ∃ i, 6 * i ≤ L ∧ v = nI (6 * i) ∧ LwI v1 v2 (i + 1) V c s I J, fun v _ _ _ _ _ => L - v.toNatClampNeg, ⟨0, by omega, rfl, law_first hc hs hW hC hM⟩, ?_⟩
  rintro v3 V c s I J ⟨i, hi, rfl, hI⟩
  unfold wA_L_law_18b
  refine ⟨fun _ => trivial, fun hnl => ?_⟩
  have h6 : 6 * i + 6 ≤ L := by
    rw [show Int32.ofNat L = nI L from rfl, i_6, Int32.lt_iff_toInt_lt, pk_sub_toInt (by omega) (by decide), nI_toInt (by omega)] at hnl
    omega
  have hk : i + 1 ≤ 600 := by omega
  have vi : ∀ d, d < 6 → vp_in (nI (6 * i) + nI d) L := fun d hd => by
    rw [nI_add]
    exact vp_in_nI (by omega) (by omega)
  have hv : LwV (nI (6 * i)) L := ⟨vi 1 (by decide), vi 2 (by decide), vi 3 (by decide), vi 4 (by decide), vi 5 (by decide)⟩
  have hK : LwN v1 v2 (i + 1) (nI (6 * i)) (fun u3 V1 c1 s1 I1 J1 => (∃ i, 6 * i ≤ L ∧ u3 = nI (6 * i) ∧ LwI v1 v2 (i + 1) V1 c1 s1 I1 J1) ∧ L - u3.toNatClampNeg < L - (nI (6 * i)).toNatClampNeg) := by
    intro V1 c1 s1 I1 J1 h
    have e : nI (6 * i) + 6 = nI (6 * (i + 1)) := by rw [i_6, nI_add, Nat.mul_add]
    rw [e]
    refine ⟨⟨i + 1, by omega, rfl, h⟩, ?_⟩
    rw [nI_clamp (by omega), nI_clamp (by omega)]
    omega
  refine ⟨vp_in_nI (by omega) (by omega), fun n31 e31 => ⟨fun _ => lw_nx hK (LwI_up hI), fun _ => lw_160 hv hk hI hK, fun _ => lw_213 hv hk hI hK, fun _ => lw_226 hv hk hI hK, fun _ => lw_286 hv hk hI hK, fun _ => lw_365 hv hk hI hK, fun _ => lw_378 hv hk hI hK, fun _ => lw_391 hv hk hI hK, fun _ => lw_415 hv hk hI hK, fun _ => lw_438 hv hk hI hK, fun _ => lw_451 hv hk hI hK, fun _ => lw_494 hv hk hI hK, fun _ => lw_543 hv hk hI hK, fun _ => lw_566 hv hk hI hK, fun _ => lw_590 hv hk hI hK, fun _ => lw_643 hv hk hI hK, fun _ => lw_666 hv hk hI hK, fun _ => lw_699 hv hk hI hK, fun _ => lw_752 hv hk hI hK, fun _ => lw_805 hv hk hI hK, fun _ => lw_849 hv hk hI hK, fun _ => lw_902 hv hk hI hK, fun _ => lw_915 hv hk hI hK, fun _ => lw_948 hv hk hI hK, fun _ => lw_971 hv hk hI hK, fun _ => lw_994 hv hk hI hK, fun _ => lw_1007 hv hk hI hK, fun _ => lw_1046 hv hk hI hK, fun _ => lw_1105 hv hk hI hK⟩⟩
