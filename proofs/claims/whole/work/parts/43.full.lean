/-- none may go anywhere -/
def isFullP (w : Wl) (hs : Nat → Hg) (m : Nat) : Bool := !(ex (fun b => ex (fun c => mayAt w hs m b c) (wW w * wH w)) (wNB w))
section
variable {sa : Nat → Nat} {d n t h m : Nat} {Q : mj_Q} {K : Nat → Nat × Nat} {FI : Nat → Nat → Int32} {FL : Nat → Nat → Int64} {FR : Nat → Nat → Option Nat} {AI : Nat → Nat → Int32} {AL : Nat → Nat → Int64} {AR : Nat → Nat → Option Nat} {w : Wl} {hs : Nat → Hg}
theorem c_isFull (hC : HC K FR FI AI AL h t w hs m) (hQ : ∀ (FI' : Nat → Nat → Int32) (AL' : Nat → Nat → Int64), HC K FR FI' AI AL' h t w hs m → LX FI FI' AL AL' h → Q (some (.int (bI (isFullP w hs m)))) (n, K, FI', FL, FR, AI, AL', AR)) : EV sa (d + 5) 21 [.ref h] (n, K, FI, FL, FR, AI, AL, AR) Q := by
  have k0 := hC.1.1
  have kt := hC.2.1.1
  have h32 := hC.cells.2
  have hn4 := hC.2.2.2.1.2.2.2.1
  have outer : ∀ rr b, b + rr = wNB w → ex (fun b => ex (fun c => mayAt w hs m b c) (wW w * wH w)) b = false → ∀ (F : Nat → Nat → Int32) (A : Nat → Nat → Int64), HC K FR F AI A h t w hs m → LX FI F AL A h → ∀ x2 : Value, WP sa (EV sa (d + 4)) 21 Q 0 0 2 [.ref h, .int (nI b), x2] [] (n, K, F, FL, FR, AI, A, AR) := by
    intro rr
    induction rr with
    | zero =>
      intro b hb hf F A h1 h2 x2
      have hb' : b = wNB w := by omega
      rw [e21_2]
      simp only [e21_3, e21_4, e21_7, e21_10, e21_49, e21_50, k0, kt, h1.2.2.1, rf_some, h1.2.2.2.2.1.1.2.2.2.2.1, true_and, or_true, true_or]
      have hq := hQ F A h1 h2
      rw [hb'] at hf
      unfold isFullP at hq
      rw [hf] at hq
      exact ⟨fun _ => hq, fun q => absurd (nI_le (by omega) (by omega)) q⟩
    | succ rr ih =>
      intro b hb hf F A h1 h2 x2
      have inner : ∀ sr i, i + sr = wW w * wH w → ex (fun c => mayAt w hs m b c) i = false → ∀ (F : Nat → Nat → Int32) (A : Nat → Nat → Int64), HC K FR F AI A h t w hs m → LX FI F AL A h → WP sa (EV sa (d + 4)) 21 Q 0 0 15 [.ref h, .int (nI b), .int (nI i)] [] (n, K, F, FL, FR, AI, A, AR) := by
        intro sr
        induction sr with
        | zero =>
          intro i hi he F A h1 h2
          have hi' : i = wW w * wH w := by omega
          subst hi'
          rw [e21_15]
          simp only [e21_16, e21_17, e21_20, k0, h1.2.2.1, rf_some, true_and]
          refine ⟨by simp, c_cells h1.2.1 ?_⟩
          rw [h1.cells.1]
          simp only [tl_some, e21_23, e21_43, e21_46, nI_1, mj_kl]
          exact ⟨fun _ => ih (b + 1) (by omega) (by simp [ex, hf, he]) F A h1 h2 _, fun q => absurd (nI_le (Nat.le_refl _) (by omega)) q⟩
        | succ sr ihs =>
          intro i hi he F A h1 h2
          rw [e21_15]
          simp only [e21_16, e21_17, e21_20, k0, h1.2.2.1, rf_some, true_and]
          refine ⟨by simp, c_cells h1.2.1 ?_⟩
          rw [h1.cells.1]
          simp only [tl_some, e21_23, e21_26, e21_27, e21_28, e21_29]
          refine ⟨fun q => absurd q (nI_ge (by omega) (by omega)), fun _ => ⟨by simp, c_mayGo h1 (by omega) (by omega) fun F' A' a1 a2 => ?_⟩⟩
          simp only [tl_some, e21_32, e21_35, e21_36, e21_37, e21_40, nI_1, mj_kl, bI_eq0, true_or, true_and]
          refine ⟨fun q => ihs (i + 1) (by omega) (by simp [ex, he, q]) F' A' a1 (h2.trans a2), fun q => ?_⟩
          have q' : mayAt w hs m b i = true := by simpa using q
          have hq := hQ F' A' a1 (h2.trans a2)
          have e : isFullP w hs m = false := by
            have e1 : ex (fun b => ex (fun c => mayAt w hs m b c) (wW w * wH w)) (wNB w) = true := ex_true.mpr ⟨b, by omega, ex_true.mpr ⟨i, by omega, q'⟩⟩
            unfold isFullP
            rw [e1]
            rfl
          rw [e] at hq
          exact hq
      rw [e21_2]
      simp only [e21_3, e21_4, e21_7, e21_10, e21_13, e21_14, k0, kt, h1.2.2.1, rf_some, h1.2.2.2.2.1.1.2.2.2.2.1, true_and, mj_kl]
      refine ⟨fun q => absurd q (nI_ge (by omega) (by omega)), fun _ => ?_⟩
      simpa [nI_0] using inner (wW w * wH w) 0 (by omega) rfl F A h1 h2
  refine n21 k0 ?_
  simp only [e21_0, e21_1, mj_kl]
  simpa [nI_0] using outer (wNB w) 0 (by omega) rfl FI AL hC LX.rfl' mj_u
end
