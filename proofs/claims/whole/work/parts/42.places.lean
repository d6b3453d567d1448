def LX (FI FI' : Nat → Nat → Int32) (AL AL' : Nat → Nat → Int64) (h : Nat) : Prop := FIx FI FI' h [12] ∧ ALx AL AL' (h + 22) (h + 22)
theorem LX.rfl' {FI : Nat → Nat → Int32} {AL : Nat → Nat → Int64} {h : Nat} : LX FI FI AL AL h := ⟨FIx.rfl', fun _ _ => rfl⟩
theorem LX.trans {FI F1 F2 : Nat → Nat → Int32} {AL A1 A2 : Nat → Nat → Int64} {h : Nat} (a : LX FI F1 AL A1 h) (b : LX F1 F2 A1 A2 h) : LX FI F2 AL A2 h := ⟨(a.1.trans b.1).sub (by simp), fun q hq => by rw [b.2 q hq, a.2 q hq]⟩
theorem HC.cells {K : Nat → Nat × Nat} {FR : Nat → Nat → Option Nat} {FI AI : Nat → Nat → Int32} {AL : Nat → Nat → Int64} {h t m : Nat} {w : Wl} {hs : Nat → Hg} (hC : HC K FR FI AI AL h t w hs m) : FI 384 t * FI 385 t = nI (wW w * wH w) ∧ wW w * wH w ≤ 32 := by
  obtain ⟨-, -, -, hw, hTR, -⟩ := hC
  rw [hTR.1.1, hTR.1.2.1, pk_mul]
  exact ⟨rfl, Nat.mul_le_mul hw.1.2 hw.2.1.2⟩
section
variable {sa : Nat → Nat} {d n t h m : Nat} {Q : mj_Q} {K : Nat → Nat × Nat} {FI : Nat → Nat → Int32} {FL : Nat → Nat → Int64} {FR : Nat → Nat → Option Nat} {AI : Nat → Nat → Int32} {AL : Nat → Nat → Int64} {AR : Nat → Nat → Option Nat} {w : Wl} {hs : Nat → Hg}
theorem c_mayGo (hC : HC K FR FI AI AL h t w hs m) {b c : Nat} (hb : b < wNB w) (hc : c < 32) (hQ : ∀ (FI' : Nat → Nat → Int32) (AL' : Nat → Nat → Int64), HC K FR FI' AI AL' h t w hs m → LX FI FI' AL AL' h → Q (some (.int (bI (mayAt w hs m b c)))) (n, K, FI', FL, FR, AI, AL', AR)) : EV sa (d + 4) 16 [.ref h, .int (nI b), .int (nI c)] (n, K, FI, FL, FR, AI, AL, AR) Q := by
  have hC' := hC
  obtain ⟨hH, hT, ht, hw, hTR, hR, hL, sep⟩ := hC
  have k0 := hH.1
  have kt := hT.1
  have hn4 := hw.2.2.2.1
  have hl4 := hw.2.2.1
  have hk3 := (hw.2.2.2.2.2.2.1 b hb).1
  have hbin : vp_in (nI b) 4 := vp_in_nI (by omega) (by decide)
  have hbcl : (nI b).toNatClampNeg = b := nI_clamp (by omega)
  obtain ⟨⟨-, -, l1, l2, -⟩, b0, -⟩ := hTR
  refine n16 k0 ?_
  simp only [e16_0, e16_1, e16_2, e16_3, e16_4, e16_7, e16_8, e16_11, e16_12, e16_15, e16_18, e16_21, k0, ht, rf_some, true_and]
  refine ⟨by simp, c_lawOf hT hbin fun r hr => ?_⟩
  rw [hbcl, (b0 b hb).1, l1] at hr
  have k1 : (nI (wK w b) = 1) ↔ wK w b = 1 := by rw [show (1 : Int32) = nI 1 from rfl, nI_eq (by omega) (by decide)]
  have hr' : r = nI (wL w + if wK w b = 1 then 1 else 0) := by
    rw [hr]
    by_cases q : wK w b = 1
    · rw [if_pos (k1.mpr q), if_pos q, nI_succ]
    · rw [if_neg (fun e => q (k1.mp e)), if_neg q, Nat.add_zero]
  subst hr'
  simp only [tl_some, e16_0, e16_1, e16_2, e16_3, e16_4, e16_7, e16_8, e16_11, e16_12, e16_15, e16_18, e16_21, k0, ht, kt, rf_some, l2, true_and]
  refine ⟨by simp, c_couldGo hC' hb hc (by split <;> omega) fun FI' AL' a1 a2 a3 => ?_⟩
  simp only [tl_some, e16_0, e16_1, e16_2, e16_3, e16_4, e16_7, e16_8, e16_11, e16_12, e16_15, e16_18, e16_21]
  exact ⟨bI_01 _, hQ FI' AL' a1 ⟨a2, a3⟩⟩
theorem c_countPlaces (hC : HC K FR FI AI AL h t w hs m) {b k : Nat} (hb : b < wNB w) (hk : k < 100) {hang : Bool} (hQ : ∀ (FI' : Nat → Nat → Int32) (AL' : Nat → Nat → Int64), HC K FR FI' AI AL' h t w hs m → LX FI FI' AL AL' h → Q (some (.int (nI (ct (fun c => couldAt w hs m b c k hang) (wW w * wH w))))) (n, K, FI', FL, FR, AI, AL', AR)) : EV sa (d + 4) 18 [.ref h, .int (nI b), .int (nI k), .int (bI hang)] (n, K, FI, FL, FR, AI, AL, AR) Q := by
  have k0 := hC.1.1
  have h32 := hC.cells.2
  generalize hp : (fun c => couldAt w hs m b c k hang) = p at hQ
  have hp' : ∀ c, couldAt w hs m b c k hang = p c := fun c => by rw [← hp]
  have loop : ∀ rr i, i + rr = wW w * wH w → ∀ (F : Nat → Nat → Int32) (A : Nat → Nat → Int64), HC K FR F AI A h t w hs m → LX FI F AL A h → WP sa (EV sa (d + 3)) 18 Q 0 0 6 [.ref h, .int (nI b), .int (nI k), .int (bI hang), .int (nI (ct p i)), .int (nI i)] [] (n, K, F, FL, FR, AI, A, AR) := by
    intro rr
    induction rr with
    | zero =>
      intro i hi F A h1 h2
      have hi' : i = wW w * wH w := by omega
      subst hi'
      rw [e18_6]
      simp only [e18_0, e18_1, e18_3, e18_4, e18_8, e18_9, e18_12, e18_15, e18_18, e18_19, e18_20, e18_22, e18_23, e18_24, e18_27, e18_30, e18_33, e18_36, e18_39, e18_41, k0, h1.2.2.1, rf_some, true_and]
      refine ⟨by simp, c_cells h1.2.1 ?_⟩
      rw [h1.cells.1]
      simp only [tl_some, e18_0, e18_1, e18_3, e18_4, e18_8, e18_9, e18_12, e18_15, e18_18, e18_19, e18_20, e18_22, e18_23, e18_24, e18_27, e18_30, e18_33, e18_36, e18_39, e18_41]
      exact ⟨fun _ => hQ F A h1 h2, fun q => absurd (nI_le (Nat.le_refl _) (by omega)) q⟩
    | succ rr ih =>
      intro i hi F A h1 h2
      rw [e18_6]
      simp only [e18_0, e18_1, e18_3, e18_4, e18_8, e18_9, e18_12, e18_15, e18_18, e18_19, e18_20, e18_22, e18_23, e18_24, e18_27, e18_30, e18_33, e18_36, e18_39, e18_41, k0, h1.2.2.1, rf_some, true_and]
      refine ⟨by simp, c_cells h1.2.1 ?_⟩
      rw [h1.cells.1]
      simp only [tl_some, e18_0, e18_1, e18_3, e18_4, e18_8, e18_9, e18_12, e18_15, e18_18, e18_19, e18_20, e18_22, e18_23, e18_24, e18_27, e18_30, e18_33, e18_36, e18_39, e18_41]
      refine ⟨fun q => absurd q (nI_ge (by omega) (by omega)), fun _ => ⟨by simp, c_couldGo h1 hb (by omega) hk fun F' A' a1 a2 a3 => ?_⟩⟩
      rw [hp']
      have nx := ih (i + 1) (by omega) F' A' a1 (h2.trans ⟨a2, a3⟩)
      simp only [tl_some, e18_0, e18_1, e18_3, e18_4, e18_8, e18_9, e18_12, e18_15, e18_18, e18_19, e18_20, e18_22, e18_23, e18_24, e18_27, e18_30, e18_33, e18_36, e18_39, e18_41, nI_1, mj_kl, bI_eq0]
      refine ⟨fun q => ?_, fun q => ?_⟩
      · simpa [ct, q] using nx
      · have q' : p i = true := by simpa using q
        simpa [ct, q'] using nx
  refine n18 k0 ?_
  simp only [e18_0, e18_1, e18_3, e18_4, e18_8, e18_9, e18_12, e18_15, e18_18, e18_19, e18_20, e18_22, e18_23, e18_24, e18_27, e18_30, e18_33, e18_36, e18_39, e18_41, mj_kl, mj_u]
  simpa [ct, nI_0] using loop (wW w * wH w) 0 (by omega) FI AL hC LX.rfl'
theorem c_findPlace (hC : HC K FR FI AI AL h t w hs m) {b k : Nat} {num : Int32} (hb : b < wNB w) (hk : k < 100) {hang : Bool} (hQ : ∀ (FI' : Nat → Nat → Int32) (AL' : Nat → Nat → Int64), HC K FR FI' AI AL' h t w hs m → LX FI FI' AL AL' h → Q (some (.int (oI (fnd (fun c => couldAt w hs m b c k hang && decide (num = nI (ct (fun c => couldAt w hs m b c k hang) c))) (wW w * wH w)) (-1)))) (n, K, FI', FL, FR, AI, AL', AR)) : EV sa (d + 4) 20 [.ref h, .int (nI b), .int num, .int (nI k), .int (bI hang)] (n, K, FI, FL, FR, AI, AL, AR) Q := by
  have k0 := hC.1.1
  have h32 := hC.cells.2
  generalize hp : (fun c => couldAt w hs m b c k hang) = p at hQ
  have hp' : ∀ c, couldAt w hs m b c k hang = p c := fun c => by rw [← hp]
  simp only [hp'] at hQ
  have loop : ∀ rr i, i + rr = wW w * wH w → fnd (fun c => p c && decide (num = nI (ct p c))) i = none → ∀ (F : Nat → Nat → Int32) (A : Nat → Nat → Int64), HC K FR F AI A h t w hs m → LX FI F AL A h → WP sa (EV sa (d + 3)) 20 Q 0 0 6 [.ref h, .int (nI b), .int num, .int (nI k), .int (bI hang), .int (num - nI (ct p i)), .int (nI i)] [] (n, K, F, FL, FR, AI, A, AR) := by
    intro rr
    induction rr with
    | zero =>
      intro i hi hf F A h1 h2
      have hi' : i = wW w * wH w := by omega
      subst hi'
      rw [e20_6]
      simp only [e20_0, e20_1, e20_3, e20_4, e20_8, e20_9, e20_12, e20_15, e20_18, e20_19, e20_20, e20_22, e20_23, e20_25, e20_28, e20_31, e20_33, e20_36, e20_38, e20_39, e20_42, e20_45, e20_48, e20_49, k0, h1.2.2.1, rf_some, true_and]
      refine ⟨by simp, c_cells h1.2.1 ?_⟩
      rw [h1.cells.1]
      simp only [tl_some, e20_0, e20_1, e20_3, e20_4, e20_8, e20_9, e20_12, e20_15, e20_18, e20_19, e20_20, e20_22, e20_23, e20_25, e20_28, e20_31, e20_33, e20_36, e20_38, e20_39, e20_42, e20_45, e20_48, e20_49]
      have hq := hQ F A h1 h2
      rw [hf] at hq
      exact ⟨fun _ => hq, fun q => absurd (nI_le (Nat.le_refl _) (by omega)) q⟩
    | succ rr ih =>
      intro i hi hf F A h1 h2
      have et := ct_top p i
      rw [e20_6]
      simp only [e20_0, e20_1, e20_3, e20_4, e20_8, e20_9, e20_12, e20_15, e20_18, e20_19, e20_20, e20_22, e20_23, e20_25, e20_28, e20_31, e20_33, e20_36, e20_38, e20_39, e20_42, e20_45, e20_48, e20_49, k0, h1.2.2.1, rf_some, true_and]
      refine ⟨by simp, c_cells h1.2.1 ?_⟩
      rw [h1.cells.1]
      simp only [tl_some, e20_0, e20_1, e20_3, e20_4, e20_8, e20_9, e20_12, e20_15, e20_18, e20_19, e20_20, e20_22, e20_23, e20_25, e20_28, e20_31, e20_33, e20_36, e20_38, e20_39, e20_42, e20_45, e20_48, e20_49]
      refine ⟨fun q => absurd q (nI_ge (by omega) (by omega)), fun _ => ⟨by simp, c_couldGo h1 hb (by omega) hk fun F' A' a1 a2 a3 => ?_⟩⟩
      rw [hp']
      simp only [tl_some, e20_0, e20_1, e20_3, e20_4, e20_8, e20_9, e20_12, e20_15, e20_18, e20_19, e20_20, e20_22, e20_23, e20_25, e20_28, e20_31, e20_33, e20_36, e20_38, e20_39, e20_42, e20_45, e20_48, e20_49, nI_1, mj_kl, bI_eq0]
      refine ⟨fun q => ?_, fun q => ⟨fun z => ?_, fun z => ?_⟩⟩
      · have nx := ih (i + 1) (by omega) (fnd_no hf (by simp [q])) F' A' a1 (h2.trans ⟨a2, a3⟩)
        simpa [ct, q] using nx
      · have q' : p i = true := by simpa using q
        simp only [q', if_true] at et
        have z' : ¬ num = nI (ct p i) := fun e => z (by rw [e]; simp)
        have nx := ih (i + 1) (by omega) (fnd_no hf (by simp [z'])) F' A' a1 (h2.trans ⟨a2, a3⟩)
        rw [et, nI_succ] at nx
        have e3 : num - (nI (ct p i) + 1) = num - nI (ct p i) + -1 := by
          simp [Int32.sub_eq_add_neg, Int32.neg_add, Int32.add_assoc]
        rw [e3] at nx
        exact nx
      · have q' : p i = true := by simpa using q
        have z2 : num - nI (ct p i) = 0 := by simpa using z
        have z3 := congrArg (fun q => q + nI (ct p i)) z2
        have z' : num = nI (ct p i) := by simpa using z3
        have hq := hQ F' A' a1 (h2.trans ⟨a2, a3⟩)
        rw [fnd_yes hf (by simp [q', ← z']) (show i < wW w * wH w by omega)] at hq
        exact hq
  refine n20 k0 ?_
  simp only [e20_0, e20_1, e20_3, e20_4, e20_8, e20_9, e20_12, e20_15, e20_18, e20_19, e20_20, e20_22, e20_23, e20_25, e20_28, e20_31, e20_33, e20_36, e20_38, e20_39, e20_42, e20_45, e20_48, e20_49, mj_kl, mj_u]
  have := loop (wW w * wH w) 0 (by omega) rfl FI AL hC LX.rfl'
  simpa [ct, nI_0] using this
end
