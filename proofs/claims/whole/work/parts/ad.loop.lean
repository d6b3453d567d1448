section LWS2
variable {cx : LCx} {b N x : Nat}
theorem nI_sub6 {N : Nat} (h : N ≤ 3072) {i : Nat} (hi : i ≤ 3072) : (nI N - 6 < nI i) ↔ N < i + 6 := by
  rw [Int32.lt_iff_toInt_lt]
  have e1 : (nI i).toInt = (i : Int) := nI_toInt (by omega)
  have e2 : (nI N - 6).toInt = (N : Int) - 6 := by
    rw [Int32.toInt_sub, nI_toInt (by omega), show (6 : Int32).toInt = 6 by decide]
    exact Int.bmod_eq_of_le (by omega) (by omega)
  rw [e1, e2]
  omega
theorem lw_loop (hC : LC cx) : ∀ (r t : Nat) (P : PG) (k z : Nat) (μ : mj_M) (v5 v6 : Value), t + r = 512 → LV b N x P t k z μ → LG cx k z 23 [.ref b, .ref x, .ref (x + 120), .ref (x + 133), .int (nI (6 * t)), v5, v6] [] μ := by
  intro r
  induction r with
  | zero =>
    intro t P k z μ v5 v6 htr hV
    have hrm := hV.room (by omega)
    obtain ⟨n, K, FI, FL, FR, AI, AL, AR⟩ := μ
    have hb : K b = (9, N) := hV.2.2.2.1.1
    have hN : N ≤ 3072 := hV.2.2.2.1.2.2
    refine g_p hC dL_law_23 rfl rfl ?_
    refine g_p hC dL_law_25 rfl rfl ?_
    refine g_len hC dL_law_26 (by rw [hb]; simp [mj_isA]) ?_
    rw [hb]
    refine g_p hC dL_law_27 rfl rfl ?_
    refine g_p hC dL_law_29 rfl rfl ?_
    refine g_b (tgt := 1576) hC dL_law_30 rfl rfl (fun _ => ?_) (fun h => ?_)
    · refine g_p hC dL_law_1576 rfl rfl ?_
      exact g_ret hC dL_law_1577 (by omega) (by omega)
    · have h : ¬ (nI N - 6 < nI (6 * t)) := h
      rw [nI_sub6 hN (by omega)] at h
      omega
  | succ r ih =>
    intro t P k z μ v5 v6 htr hV
    have hrm := hV.room (by omega)
    obtain ⟨n, K, FI, FL, FR, AI, AL, AR⟩ := μ
    have hb : K b = (9, N) := hV.2.2.2.1.1
    have hN : N ≤ 3072 := hV.2.2.2.1.2.2
    refine g_p hC dL_law_23 rfl rfl ?_
    refine g_p hC dL_law_25 rfl rfl ?_
    refine g_len hC dL_law_26 (by rw [hb]; simp [mj_isA]) ?_
    rw [hb]
    refine g_p hC dL_law_27 rfl rfl ?_
    refine g_p hC dL_law_29 rfl rfl ?_
    refine g_b (tgt := 1576) hC dL_law_30 rfl rfl (fun _ => ?_) (fun h => ?_)
    · refine g_p hC dL_law_1576 rfl rfl ?_
      exact g_ret hC dL_law_1577 (by omega) (by omega)
    · have h : ¬ (nI N - 6 < nI (6 * t)) := h
      rw [nI_sub6 hN (by omega)] at h
      refine g_p hC dL_law_33 rfl rfl ?_
      refine g_p hC dL_law_34 rfl rfl ?_
      refine g_ial hC dL_law_36 (by rw [hb]; exact Or.inr rfl) (by rw [hb]; exact vp_in_nI (by omega) (by omega)) ?_
      refine g_p hC dL_law_37 rfl rfl ?_
      refine g_p hC dL_law_39 rfl rfl ?_
      obtain ⟨c, hc, e⟩ := pk_andE (AI b (nI (6 * t)).toNatClampNeg) (m := 63) 6 (by decide)
      show LG cx k z 40 _ [.int (AI b (nI (6 * t)).toNatClampNeg &&& 63)] _
      rw [e]
      refine lw_sw hC hV (by omega) (by omega) (fun P' k' z' μ' v5' v6' hV' => ?_) hc
      refine g_p hC dL_law_1570 rfl rfl ?_
      refine g_go (tgt := 23) hC dL_law_1573 rfl ?_
      have e6 : nI (6 * t) + Int32.ofInt 6 = nI (6 * (t + 1)) := by
        rw [show Int32.ofInt 6 = nI 6 from rfl, nI_add]
        rfl
      have := ih (t + 1) P' k' z' μ' v5' v6' (by omega) hV'
      rw [← e6] at this
      exact this
end LWS2
