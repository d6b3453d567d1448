/-- a letter's code -/
def lcd (o : Option Nat) : Nat := match o with
  | some l => l + 1
  | none => 0
/-- how many places make a word -/
def makesAt (w : Wl) (hs : Nat → Hg) (m b c : Nat) : Bool := mayAt w hs m b c && makes w hs m b (c % wW w) (c / wW w)
theorem codeIn_eq {r : Int64} {f : Nat → Nat} (hf : PkL r f) (hf5 : ∀ i, f i < 32) {i : Nat} (hi : i < 8) : ((r.toUInt64 >>> ((nI (5 * i)).toInt64.toUInt64 &&& Int64.toUInt64 63)).toInt64).toInt32 &&& 31 = nI (f i) := by
  obtain ⟨y, hy, rfl⟩ := wb_of r
  rw [wb_shr hy (by omega)]
  apply b_ext
  intro j hj
  rw [b_and]
  have h31 : bt 31 j = decide (j < 5) := by
    have : ∀ j, j < 32 → bt 31 j = decide (j < 5) := by decide +kernel
    exact this j hj
  have e1 : bt (lN (y / 2 ^ (5 * i))).toInt32 j = y.testBit (5 * i + j) := by
    unfold bt
    rw [Int64.toBitVec_toInt32, BitVec.getLsbD_signExtend, if_pos (show j < 64 by omega), decide_eq_true hj, Bool.true_and]
    show (BitVec.ofNat 64 (y / 2 ^ (5 * i))).getLsbD j = _
    rw [BitVec.getLsbD_ofNat]
    simp [show j < 64 by omega, Nat.testBit_div_two_pow, Nat.add_comm]
  have e2 : bt (nI (f i)) j = (f i).testBit j := by
    show (BitVec.ofNat 32 (f i)).getLsbD j = _
    rw [BitVec.getLsbD_ofNat]
    simp [hj]
  rw [e1, e2, h31]
  by_cases q : j < 5
  · have := hf (5 * i + j) (by omega)
    unfold bL at this
    rw [wb_tb, BitVec.getLsbD_ofNat, show (5 * i + j) / 5 = i by omega, show (5 * i + j) % 5 = j by omega] at this
    simp only [show 5 * i + j < 64 by omega, show 5 * i + j < 40 by omega, decide_true, Bool.true_and] at this
    simp [this, q]
  · have h5 := hf5 i
    have : (f i).testBit j = false := Nat.testBit_lt_two_pow (Nat.lt_of_lt_of_le h5 (show 2 ^ 5 ≤ 2 ^ j from Nat.pow_le_pow_right (by decide) (by omega)))
    simp [this, q]
section
variable {sa : Nat → Nat} {d n t h m : Nat} {Q : mj_Q} {K : Nat → Nat × Nat} {FI : Nat → Nat → Int32} {FL : Nat → Nat → Int64} {FR : Nat → Nat → Option Nat} {AI : Nat → Nat → Int32} {AL : Nat → Nat → Int64} {AR : Nat → Nat → Option Nat} {w : Wl} {hs : Nat → Hg}
theorem c_codeIn {r : Int64} {f : Nat → Nat} {μ : mj_M} (hf : PkL r f) (hf5 : ∀ i, f i < 32) {i : Nat} (hi : i < 8) (hQ : Q (some (.int (nI (f i)))) μ) : EV sa (d + 1) 97 [.long r, .int (nI i)] μ Q := by
  refine n97 ?_
  have e5 : (5 : Int32) * nI i = nI (5 * i) := by rw [show (5 : Int32) = nI 5 from rfl, pk_mul]
  simp only [e97_0, e97_1, e97_2, e97_3, e97_4, e97_5, e97_6, e97_8, e97_9, e5, codeIn_eq hf hf5 hi]
  exact hQ
theorem c_codeAt (hC : HC K FR FI AI AL h t w hs m) {c : Nat} (hc : c < wW w * wH w) (hQ : ∀ (FI' : Nat → Nat → Int32) (AL' : Nat → Nat → Int64), HC K FR FI' AI AL' h t w hs m → LX FI FI' AL AL' h → Q (some (.int (nI (lcd (letr w hs m c))))) (n, K, FI', FL, FR, AI, AL', AR)) : EV sa (d + 2) 23 [.ref h, .int (nI c)] (n, K, FI, FL, FR, AI, AL, AR) Q := by
  have hC' := hC
  have h32 := hC.cells.2
  obtain ⟨hH, hT, ht, hw, hTR, hR, hL, sep⟩ := hC
  have k0 := hH.1
  obtain ⟨kt, -, -, -, -, -, -, -, -, -, -, -, ⟨t12, kt12⟩, ⟨t13, kt13⟩⟩ := id hT
  obtain ⟨-, -, -, -, -, -, -, -, ⟨f11, k22⟩⟩ := id hH
  have hgk : ∀ k, k < m → gOK w (hs k) := fun k hk => (hR.2.2.2.2 k hk).1
  obtain ⟨m1, m2⟩ := hTR.2.2.2 c (by omega)
  have hin : vp_in (nI c) 32 := vp_in_nI (by omega) (by decide)
  have hcl : (nI c).toNatClampNeg = c := nI_clamp (by omega)
  have hW := hw.1
  have hx : c % wW w < wW w := Nat.mod_lt _ (by omega)
  have hy : c / wW w < wH w := Nat.div_lt_of_lt_mul hc
  have hH4 := hw.2.1.2
  have yin : vp_in (nI (c / wW w)) 4 := vp_in_nI (by omega) (by decide)
  have ycl : (nI (c / wW w)).toNatClampNeg = c / wW w := nI_clamp (by omega)
  refine n23 k0 ?_
  simp only [e23_0, e23_1]
  refine ⟨by simp, c_knowLetters hH hT ht hw hTR hR hL sep fun F A a1 a2 a3 a4 => ?_⟩
  have hC2 := hC'.lt' (Or.inr ⟨a1, a2⟩) a3 a4
  simp only [tl_none, e23_0, e23_1, e23_4, e23_5, e23_8, e23_9, e23_12, e23_15, e23_16, e23_17, e23_18, e23_19, e23_22, e23_25, e23_26, e23_27, e23_30, k0, kt, ht, t12, t13, kt12, kt13, f11, k22, rf_some, hin, hcl, m1, m2, yin, ycl, true_and, true_or]
  refine ⟨by simp, c_codeIn (a2 (c / wW w) (by omega)) (rowf_lt hw hgk _) (by omega) ?_⟩
  simp only [tl_some, e23_0, e23_1, e23_4, e23_5, e23_8, e23_9, e23_12, e23_15, e23_16, e23_17, e23_18, e23_19, e23_22, e23_25, e23_26, e23_27, e23_30]
  have e : rowf w hs m (c / wW w) (c % wW w) = (lcd (letr w hs m c)) := by
    unfold rowf
    rw [if_pos ⟨hx, hy⟩, Nat.div_add_mod]
    cases letr w hs m c <;> rfl
  rw [e]
  exact hQ F A hC2 ⟨a3, a4⟩
theorem c_countMaking (hC : HC K FR FI AI AL h t w hs m) {b : Nat} (hb : b < wNB w) (hQ : ∀ (FI' : Nat → Nat → Int32) (AL' : Nat → Nat → Int64), HC K FR FI' AI AL' h t w hs m → LX FI FI' AL AL' h → Q (some (.int (nI (ct (fun c => makesAt w hs m b c) (wW w * wH w))))) (n, K, FI', FL, FR, AI, AL', AR)) : EV sa (d + 5) 19 [.ref h, .int (nI b)] (n, K, FI, FL, FR, AI, AL, AR) Q := by
  have k0 := hC.1.1
  have h32 := hC.cells.2
  generalize hp : (fun c => makesAt w hs m b c) = p at hQ
  have hp' : ∀ c, makesAt w hs m b c = p c := fun c => by rw [← hp]
  have loop : ∀ rr i, i + rr = wW w * wH w → ∀ (F : Nat → Nat → Int32) (A : Nat → Nat → Int64), HC K FR F AI A h t w hs m → LX FI F AL A h → WP sa (EV sa (d + 4)) 19 Q 0 0 4 [.ref h, .int (nI b), .int (nI (ct p i)), .int (nI i)] [] (n, K, F, FL, FR, AI, A, AR) := by
    intro rr
    induction rr with
    | zero =>
      intro i hi F A h1 h2
      have hi' : i = wW w * wH w := by omega
      subst hi'
      rw [e19_4]
      simp only [e19_0, e19_1, e19_2, e19_3, e19_5, e19_6, e19_9, e19_12, e19_15, e19_16, e19_17, e19_18, e19_21, e19_24, e19_25, e19_26, e19_27, e19_30, e19_33, e19_36, e19_39, e19_42, e19_43, k0, h1.2.2.1, rf_some, true_and]
      refine ⟨by simp, c_cells h1.2.1 ?_⟩
      rw [h1.cells.1]
      simp only [tl_some, e19_0, e19_1, e19_2, e19_3, e19_5, e19_6, e19_9, e19_12, e19_15, e19_16, e19_17, e19_18, e19_21, e19_24, e19_25, e19_26, e19_27, e19_30, e19_33, e19_36, e19_39, e19_42, e19_43]
      exact ⟨fun _ => hQ F A h1 h2, fun q => absurd (nI_le (Nat.le_refl _) (by omega)) q⟩
    | succ rr ih =>
      intro i hi F A h1 h2
      rw [e19_4]
      simp only [e19_0, e19_1, e19_2, e19_3, e19_5, e19_6, e19_9, e19_12, e19_15, e19_16, e19_17, e19_18, e19_21, e19_24, e19_25, e19_26, e19_27, e19_30, e19_33, e19_36, e19_39, e19_42, e19_43, k0, h1.2.2.1, rf_some, true_and]
      refine ⟨by simp, c_cells h1.2.1 ?_⟩
      rw [h1.cells.1]
      simp only [tl_some, e19_0, e19_1, e19_2, e19_3, e19_5, e19_6, e19_9, e19_12, e19_15, e19_16, e19_17, e19_18, e19_21, e19_24, e19_25, e19_26, e19_27, e19_30, e19_33, e19_36, e19_39, e19_42, e19_43]
      refine ⟨fun q => absurd q (nI_ge (by omega) (by omega)), fun _ => ⟨by simp, c_mayGo h1 hb (by omega) fun F' A' a1 a2 => ?_⟩⟩
      simp only [tl_some, e19_0, e19_1, e19_2, e19_3, e19_5, e19_6, e19_9, e19_12, e19_15, e19_16, e19_17, e19_18, e19_21, e19_24, e19_25, e19_26, e19_27, e19_30, e19_33, e19_36, e19_39, e19_42, e19_43, nI_1, mj_kl, bI_eq0]
      have hpi := hp' i
      unfold makesAt at hpi
      refine ⟨fun q => ?_, fun q => ⟨by simp, ?_⟩⟩
      · have nx := ih (i + 1) (by omega) F' A' a1 (h2.trans a2)
        rw [q, Bool.false_and] at hpi
        simpa [ct, ← hpi] using nx
      · have q' : mayAt w hs m b i = true := by simpa using q
        have ho : onW w b (i % wW w) (i / wW w) := by
          have : onAt w b i = true := by
            unfold mayAt at q'
            exact (Bool.and_eq_true_iff.mp q').1
          simp only [onAt, decide_eq_true_eq] at this
          exact ⟨hb, this.1, this.2⟩
        have hm30 : m ≠ 30 := by
          intro e
          subst e
          simp [mayAt, may, could] at q'
        obtain ⟨hH, hT, ht, hw, hTR, hR, hL, sep⟩ := id a1
        have := c_readsMoreWith (sa := sa) (d := d + 2) (n := n) (FL := FL) (AR := AR) (Q := fun v μ => WP sa (EV sa (d + 4)) 19 Q 0 0 30 [.ref h, .int (nI b), .int (nI (ct p i)), .int (nI i)] (v.toList ++ []) μ) hH hT ht hw hTR hR hL sep ho
        rw [Nat.div_add_mod] at this
        refine this fun F2 A2 b1 b2 b3 => ?_
        have nx := ih (i + 1) (by omega) F2 A2 (a1.lt' b1 b2 b3) ((h2.trans a2).trans ⟨b2, b3⟩)
        have hpi' : p i = ex (fun v => decide (reads w hs m v < reads w (puth hs m (b, i % wW w, i / wW w, -2)) (m + 1) v)) (wNW w) := by
          rw [← hpi, q']
          simp [makes, hm30]
        simp only [tl_some, e19_0, e19_1, e19_2, e19_3, e19_5, e19_6, e19_9, e19_12, e19_15, e19_16, e19_17, e19_18, e19_21, e19_24, e19_25, e19_26, e19_27, e19_30, e19_33, e19_36, e19_39, e19_42, e19_43, nI_1, mj_kl, bI_eq0]
        rw [← hpi']
        refine ⟨fun q2 => ?_, fun q2 => ?_⟩
        · simpa [ct, q2] using nx
        · have q3 : p i = true := by simpa using q2
          simpa [ct, q3] using nx
  refine n19 k0 ?_
  simp only [e19_0, e19_1, e19_2, e19_3, e19_5, e19_6, e19_9, e19_12, e19_15, e19_16, e19_17, e19_18, e19_21, e19_24, e19_25, e19_26, e19_27, e19_30, e19_33, e19_36, e19_39, e19_42, e19_43, mj_kl, mj_u]
  simpa [ct, nI_0] using loop (wW w * wH w) 0 (by omega) FI AL hC LX.rfl'
end
