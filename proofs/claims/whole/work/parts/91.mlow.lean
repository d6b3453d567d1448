/-! ## the model's lower layer -/
def MkL (v : Int64) (p : Nat → Bool) : Prop := ∀ j, j < 64 → bL v j = (decide (j < 32) && p j)
theorem MkL.congr {v : Int64} {p q : Nat → Bool} (h : MkL v p) (e : ∀ c, c < 32 → p c = q c) : MkL v q := fun j hj => by
  rw [h j hj]
  by_cases z : j < 32
  · rw [e j z]
  · simp [z]
theorem MkL.eq0 {v : Int64} {p : Nat → Bool} (h : MkL v p) : v = 0 ↔ ex p 32 = false := by
  rw [ex_false]
  constructor
  · intro e k hk
    have := h k (by omega)
    rw [e, bL_0] at this
    simpa [hk] using this.symm
  · intro e
    refine bL_ext fun j hj => ?_
    rw [h j hj, bL_0]
    by_cases z : j < 32
    · simp [e j z]
    · simp [z]
theorem MkL.and {u v : Int64} {p q : Nat → Bool} (h1 : MkL u p) (h2 : MkL v q) : MkL (u &&& v) (fun c => p c && q c) := fun j hj => by
  rw [bL_and, h1 j hj, h2 j hj]
  by_cases z : j < 32 <;> simp [z]
theorem MkL.zero : MkL 0 (fun _ => false) := fun j _ => by rw [bL_0]; simp
theorem bL_one (j : Nat) (hj : j < 64) : bL 1 j = decide (j = 0) := by
  have : ∀ j, j < 64 → bL 1 j = decide (j = 0) := by decide +kernel
  exact this j hj
theorem MkL.set {v : Int64} {p : Nat → Bool} {c : Nat} (h : MkL v p) (hc : c < 32) : MkL (v ||| ((1 : Int64) <<< ((nI c).toInt64 &&& 63))) (fun k => p k || decide (k = c)) := fun j hj => by
  rw [bL_or, h j hj, bL_shl _ (by omega) hj]
  by_cases q : c ≤ j
  · rw [bL_one _ (by omega), decide_eq_true q, Bool.true_and]
    by_cases z : j = c
    · subst z; simp [hc]
    · have : ¬ j - c = 0 := by omega
      simp [z, this]
  · have : ¬ j = c := by omega
    simp [q, this]
theorem bL_sshr (x : Int64) {k : Nat} (hk : k < 64) : bL ((x >>> ((nI k).toInt64 &&& 63)) &&& 1) 0 = bL x k := by
  rw [bL_and, bL_one 0 (by decide)]
  unfold bL
  rw [wb_c k hk, Int64.toBitVec_shiftRight, wb_tb, wb_sm k hk, BitVec.sshiftRight_eq', BitVec.toNat_ofNat, Nat.mod_eq_of_lt (show k < 2 ^ 64 by omega), BitVec.getLsbD_sshiftRight]
  simp [hk]
theorem bit_is1 {v : Int64} {p : Nat → Bool} (h : MkL v p) {c : Nat} (hc : c < 32) : ((v >>> ((nI c).toInt64 &&& 63)) &&& 1 = 1) ↔ p c = true := by
  have hb : bL v c = p c := by rw [h c (by omega)]; simp [hc]
  have key := bL_sshr v (show c < 64 by omega)
  rw [hb] at key
  constructor
  · intro e
    rw [e, bL_one 0 (by decide)] at key
    simpa using key.symm
  · intro e
    rw [e] at key
    refine bL_ext fun j hj => ?_
    rw [bL_one j hj]
    by_cases z : j = 0
    · subst z; rw [key]; rfl
    · rw [bL_and, bL_one j hj]; simp [z]
/-- where a wall of the model has its arrays, and what it holds -/
def MWS (K : Nat → Nat × Nat) (FR : Nat → Nat → Option Nat) (a : Nat) : Prop := K a = (1, 9) ∧ (FR 586 a = some (a + 1) ∧ K (a + 1) = (2, 4)) ∧ (FR 587 a = some (a + 2) ∧ K (a + 2) = (2, 4)) ∧ (FR 588 a = some (a + 3) ∧ K (a + 3) = (2, 4)) ∧ (FR 589 a = some (a + 4) ∧ K (a + 4) = (2, 4)) ∧ (FR 590 a = some (a + 5) ∧ K (a + 5) = (2, 32)) ∧ (FR 591 a = some (a + 6) ∧ K (a + 6) = (2, 6)) ∧ (FR 592 a = some (a + 7) ∧ K (a + 7) = (2, 48)) ∧ (FR 593 a = some (a + 8) ∧ K (a + 8) = (2, 3)) ∧ (FR 594 a = some (a + 9) ∧ K (a + 9) = (4, 6)) ∧ (FR 595 a = some (a + 10) ∧ K (a + 10) = (4, 7)) ∧ (FR 596 a = some (a + 11) ∧ K (a + 11) = (2, 7)) ∧ (FR 597 a = some (a + 12) ∧ K (a + 12) = (2, 7))
def MW (FI AI : Nat → Nat → Int32) (a : Nat) (w : Wl) : Prop := (FI 576 a = nI (wW w) ∧ FI 577 a = nI (wH w) ∧ FI 578 a = nI (wL w) ∧ FI 579 a = nI (wNB w) ∧ FI 580 a = nI (wNR w) ∧ FI 581 a = nI (wNW w) ∧ FI 582 a = nI (wF w) ∧ FI 585 a = bI (wB w)) ∧ (∀ b, b < wNB w → AI (a + 1) b = nI (wK w b) ∧ AI (a + 2) b = nI (wBW w b) ∧ AI (a + 3) b = nI (wBH w b) ∧ AI (a + 4) b = nI (wTL w b) ∧ ∀ j, j < wTL w b → AI (a + 5) (8 * b + j) = nI (wTX w b j)) ∧ ∀ v, v < wNW w → AI (a + 6) v = nI (wWL w v) ∧ ∀ j, j < wWL w v → AI (a + 7) (8 * v + j) = nI (wWT w v j)
/-- what hangs, in the model -/
def MHS (K : Nat → Nat × Nat) (FR : Nat → Nat → Option Nat) (u : Nat) : Prop := K u = (1, 8) ∧ (FR 512 u = some (u + 1) ∧ K (u + 1) = (2, 127)) ∧ (FR 513 u = some (u + 2) ∧ K (u + 2) = (4, 30))
def MH (AI : Nat → Nat → Int32) (AL : Nat → Nat → Int64) (u : Nat) (w : Wl) (hs : Nat → Hg) (m : Nat) : Prop := AI (u + 1) 0 = nI m ∧ m ≤ 30 ∧ ∀ k, k < m → gOK w (hs k) ∧ AI (u + 1) (1 + k) = nI (gB (hs k)) ∧ AI (u + 1) (31 + k) = nI (gX (hs k)) ∧ AI (u + 1) (61 + k) = nI (gY (hs k)) ∧ AI (u + 1) (91 + k) = gR (hs k) ∧ MkL (AL (u + 2) k) (covg w (hs k))
def MdS (K : Nat → Nat × Nat) (FR : Nat → Nat → Option Nat) (q : Nat) : Prop := K q = (1, 10) ∧ (FR 647 q = some (q + 1) ∧ K (q + 1) = (2, 32)) ∧ (FR 648 q = some (q + 2) ∧ K (q + 2) = (2, 6))
section
variable {sa : Nat → Nat} {d n t h m : Nat} {Q : mj_Q} {K : Nat → Nat × Nat} {FI : Nat → Nat → Int32} {FL : Nat → Nat → Int64} {FR : Nat → Nat → Option Nat} {AI : Nat → Nat → Int32} {AL : Nat → Nat → Int64} {AR : Nat → Nat → Option Nat} {w : Wl} {hs : Nat → Hg}
variable {a u q : Nat}
theorem c_many (hH : MHS K FR u) (hQ : Q (some (.int (AI (u + 1) 0))) (n, K, FI, FL, FR, AI, AL, AR)) : EV sa (d + 1) 153 [.ref u] (n, K, FI, FL, FR, AI, AL, AR) Q := by
  obtain ⟨k0, ⟨f0, k1⟩, -⟩ := hH
  refine n153 k0 ?_
  have in0 : vp_in (0 : Int32) 127 := vp_in_nI (n := 0) (by decide) (by decide)
  simp only [e153_0, e153_1, e153_4, e153_5, e153_6, k0, f0, k1, rf_some, in0, cl0, true_and, true_or]
  exact hQ
theorem c_takesOff (hH : MHS K FR u) (hQ : Q none (n, K, FI, FL, FR, mj_u2 AI (u + 1) 0 (AI (u + 1) 0 - 1), AL, AR)) : EV sa (d + 1) 155 [.ref u] (n, K, FI, FL, FR, AI, AL, AR) Q := by
  obtain ⟨k0, ⟨f0, k1⟩, -⟩ := hH
  refine n155 k0 ?_
  have in0 : vp_in (0 : Int32) 127 := vp_in_nI (n := 0) (by decide) (by decide)
  simp only [e155_0, e155_1, e155_4, e155_5, e155_6, e155_7, e155_8, e155_9, e155_10, k0, f0, k1, rf_some, in0, cl0, true_and, true_or]
  exact hQ
theorem c_mcells (hS : MWS K FR a) (hw : wOK w) (hM : MW FI AI a w) {b x y : Nat} (ho : onW w b x y) (hQ : ∀ v : Int64, MkL v (cov w b x y) → Q (some (.long v)) (n, K, FI, FL, FR, AI, AL, AR)) : EV sa (d + 1) 160 [.ref a, .int (nI b), .int (nI x), .int (nI y)] (n, K, FI, FL, FR, AI, AL, AR) Q := by
  obtain ⟨k0, -, ⟨f2, k2⟩, ⟨f3, k3⟩, -⟩ := id hS
  obtain ⟨⟨w1, -⟩, mb, -⟩ := hM
  obtain ⟨o1, o2, o3⟩ := id ho
  obtain ⟨-, b2, b3, -⟩ := mb b o1
  have hn4 := hw.2.2.2.1
  have hW := hw.1
  have hH := hw.2.1
  have hbin : vp_in (nI b) 4 := vp_in_nI (by omega) (by decide)
  have hbcl : (nI b).toNatClampNeg = b := nI_clamp (by omega)
  obtain ⟨-, bb2, bb3, -⟩ := hw.2.2.2.2.2.2.1 b o1
  have cellv : ∀ i j c, j < wW w → ((c = wW w * i + j) ↔ (c / wW w = i ∧ c % wW w = j)) := fun i j c hj => by
    constructor
    · rintro rfl
      obtain ⟨e1, e2⟩ := cellxy (y := i) hj
      exact ⟨e2, e1⟩
    · rintro ⟨e1, e2⟩
      have := Nat.div_add_mod c (wW w)
      rw [e1, e2] at this
      exact this.symm
  have outer : ∀ rr i, i + rr = wBH w b → ∀ v : Int64, MkL v (fun c => decide (x ≤ c % wW w ∧ c % wW w < x + wBW w b ∧ y ≤ c / wW w ∧ c / wW w < y + i)) → ∀ x7 : Value, WP sa (EV sa d) 160 Q 0 0 6 [.ref a, .int (nI b), .int (nI x), .int (nI y), .long v, mj_u, .int (nI (y + i)), x7] [] (n, K, FI, FL, FR, AI, AL, AR) := by
    intro rr
    induction rr with
    | zero =>
      intro i hi v hv x7
      have hi' : i = wBH w b := by omega
      subst hi'
      rw [e160_6]
      simp only [e160_8, e160_9, e160_10, e160_13, e160_14, e160_15, e160_16, e160_64, e160_66, k0, f3, k3, rf_some, hbin, hbcl, b3, nI_add, true_and, true_or]
      exact ⟨fun _ => hQ v hv, fun z => absurd (nI_le (Nat.le_refl _) (by omega)) z⟩
    | succ rr IH =>
      intro i hi v hv x7
      have inner : ∀ sr j, j + sr = wBW w b → ∀ v : Int64, MkL v (fun c => decide ((x ≤ c % wW w ∧ c % wW w < x + wBW w b ∧ y ≤ c / wW w ∧ c / wW w < y + i) ∨ (c / wW w = y + i ∧ x ≤ c % wW w ∧ c % wW w < x + j))) → WP sa (EV sa d) 160 Q 0 0 22 [.ref a, .int (nI b), .int (nI x), .int (nI y), .long v, mj_u, .int (nI (y + i)), .int (nI (x + j))] [] (n, K, FI, FL, FR, AI, AL, AR) := by
        intro sr
        induction sr with
        | zero =>
          intro j hj v hv
          have hj' : j = wBW w b := by omega
          subst hj'
          rw [e160_22]
          simp only [e160_24, e160_25, e160_26, e160_29, e160_30, e160_31, e160_32, e160_58, e160_61, k0, f2, k2, rf_some, hbin, hbcl, b2, nI_add, nI_1, true_and, true_or, mj_kl]
          refine ⟨fun _ => ?_, fun z => absurd (nI_le (Nat.le_refl _) (by omega)) z⟩
          refine IH (i + 1) (by omega) v (hv.congr fun c hc => ?_) _
          rw [decide_eq_decide]
          omega
        | succ sr ih =>
          intro j hj v hv
          have hc32 : wW w * (y + i) + (x + j) < 32 := by
            have e1 : wW w * (y + i + 1) ≤ wW w * wH w := Nat.mul_le_mul_left _ (by omega)
            have e2 : wW w * wH w ≤ 8 * 4 := Nat.mul_le_mul hW.2 hH.2
            rw [Nat.mul_add] at e1
            omega
          rw [e160_22]
          simp only [e160_24, e160_25, e160_26, e160_29, e160_30, e160_31, e160_32, e160_35, e160_37, e160_38, e160_39, e160_42, e160_44, e160_45, e160_47, e160_48, e160_49, e160_50, e160_52, e160_55, k0, f2, k2, rf_some, hbin, hbcl, b2, w1, pk_mul, nI_add, nI_1, true_and, true_or, mj_kl]
          refine ⟨fun z => absurd z (nI_ge (by omega) (by omega)), fun _ => ?_⟩
          have := ih (j + 1) (by omega) _ ((hv.set hc32).congr fun c hc => ?_)
          · simpa [mj_u, Nat.add_assoc, mj_kl] using this
          · rw [← Bool.decide_or, decide_eq_decide, cellv (y + i) (x + j) c (by omega)]
            omega
      rw [e160_6]
      simp only [e160_8, e160_9, e160_10, e160_13, e160_14, e160_15, e160_16, e160_19, e160_20, k0, f3, k3, rf_some, hbin, hbcl, b3, nI_add, true_and, true_or, mj_kl]
      refine ⟨fun z => absurd z (nI_ge (by omega) (by omega)), fun _ => ?_⟩
      have := inner (wBW w b) 0 (by omega) v (hv.congr fun c hc => by rw [decide_eq_decide]; omega)
      simpa [mj_kl] using this
  refine n160 k0 ?_
  simp only [e160_0, e160_1, e160_3, e160_4, e160_8, e160_9, e160_10, e160_13, e160_14, e160_15, e160_16, e160_19, e160_20, e160_24, e160_25, e160_26, e160_29, e160_30, e160_31, e160_32, e160_35, e160_37, e160_38, e160_39, e160_42, e160_44, e160_45, e160_47, e160_48, e160_49, e160_50, e160_52, e160_55, e160_58, e160_61, e160_64, e160_66, mj_kl]
  have := outer (wBH w b) 0 (by omega) 0 (MkL.zero.congr fun c _ => by symm; rw [decide_eq_false_iff_not]; omega) mj_u
  simpa [mj_u, mj_kl] using this
end
