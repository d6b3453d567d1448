section
variable {sa : Nat → Nat} {d n t h m : Nat} {Q : mj_Q} {K : Nat → Nat × Nat} {FI : Nat → Nat → Int32} {FL : Nat → Nat → Int64} {FR : Nat → Nat → Option Nat} {AI : Nat → Nat → Int32} {AL : Nat → Nat → Int64} {AR : Nat → Nat → Option Nat} {w : Wl} {hs : Nat → Hg}
theorem c_timesRead (hC : HC K FR FI AI AL h t w hs m) {v : Nat} (hv : v < wNW w) (hQ : ∀ (FI' : Nat → Nat → Int32) (AL' : Nat → Nat → Int64), HC K FR FI' AI AL' h t w hs m → LX FI FI' AL AL' h → Q (some (.int (nI (reads w hs m v)))) (n, K, FI', FL, FR, AI, AL', AR)) : EV sa (d + 2) 24 [.ref h, .int (nI v)] (n, K, FI, FL, FR, AI, AL, AR) Q := by
  have hC' := hC
  obtain ⟨hH, hT, ht, hw, hTR, hR, hL, sep⟩ := hC
  have k0 := hH.1
  have kt := hT.1
  have hH4 := hw.2.1.2
  obtain ⟨-, -, -, -, -, -, -, -, ⟨f11, k22⟩⟩ := id hH
  have hgk : ∀ k, k < m → gOK w (hs k) := fun k hk => (hR.2.2.2.2 k hk).1
  refine n24 k0 ?_
  simp only [e24_0, e24_1]
  refine ⟨by simp, c_knowLetters hH hT ht hw hTR hR hL sep fun F A a1 a2 a3 a4 => ?_⟩
  have hC2 := hC'.lt' (Or.inr ⟨a1, a2⟩) a3 a4
  have hTR2 := hC2.2.2.2.2.1
  have hq := hQ F A hC2 ⟨a3, a4⟩
  rw [reads_rows hw hv] at hq
  generalize hf : (fun y => inRow w v (rowf w hs m y)) = f at hq
  have hf' : ∀ y, inRow w v (rowf w hs m y) = f y := fun y => by rw [← hf]
  have loop : ∀ rr i, i + rr = wH w → WP sa (EV sa (d + 1)) 24 Q 0 0 8 [.ref h, .int (nI v), .int (nI (sm f i)), .int (nI i)] [] (n, K, F, FL, FR, AI, A, AR) := by
    intro rr
    induction rr with
    | zero =>
      intro i hi
      have hi' : i = wH w := by omega
      subst hi'
      rw [e24_8]
      simp only [e24_0, e24_1, e24_4, e24_5, e24_6, e24_7, e24_9, e24_10, e24_13, e24_16, e24_19, e24_20, e24_21, e24_24, e24_25, e24_28, e24_29, e24_30, e24_31, e24_34, e24_35, e24_36, e24_39, e24_42, e24_43, k0, kt, ht, rf_some, hTR2.1.2.1, true_and]
      exact ⟨fun _ => hq, fun q => absurd (nI_le (Nat.le_refl _) (by omega)) q⟩
    | succ rr ih =>
      intro i hi
      have hin : vp_in (nI i) 4 := vp_in_nI (by omega) (by decide)
      have hcl : (nI i).toNatClampNeg = i := nI_clamp (by omega)
      rw [e24_8]
      simp only [e24_0, e24_1, e24_4, e24_5, e24_6, e24_7, e24_9, e24_10, e24_13, e24_16, e24_19, e24_20, e24_21, e24_24, e24_25, e24_28, e24_29, e24_30, e24_31, e24_34, e24_35, e24_36, e24_39, e24_42, e24_43, k0, kt, ht, rf_some, hTR2.1.2.1, f11, k22, hin, hcl, true_and]
      refine ⟨fun q => absurd q (nI_ge (by omega) (by omega)), fun _ => ⟨by simp, c_timesIn hT hw hTR2 hv (a2 i (by omega)) (rowf_lt hw hgk _) ?_⟩⟩
      rw [hf']
      simp only [tl_some, e24_0, e24_1, e24_4, e24_5, e24_6, e24_7, e24_9, e24_10, e24_13, e24_16, e24_19, e24_20, e24_21, e24_24, e24_25, e24_28, e24_29, e24_30, e24_31, e24_34, e24_35, e24_36, e24_39, e24_42, e24_43, nI_add, nI_1, mj_kl]
      simpa [sm] using ih (i + 1) (by omega)
  simp only [tl_none, e24_0, e24_1, e24_4, e24_5, e24_6, e24_7, e24_9, e24_10, e24_13, e24_16, e24_19, e24_20, e24_21, e24_24, e24_25, e24_28, e24_29, e24_30, e24_31, e24_34, e24_35, e24_36, e24_39, e24_42, e24_43, mj_kl, mj_u]
  simpa [sm, nI_0] using loop (wH w) 0 (by omega)
end
