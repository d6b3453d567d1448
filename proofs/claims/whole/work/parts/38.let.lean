theorem bL_ext {x y : Int64} (h : ∀ j, j < 64 → bL x j = bL y j) : x = y := by
  apply wb_inj
  apply BitVec.eq_of_getLsbD_eq
  intro i hi
  exact h i hi
theorem bL_and (x y : Int64) (j : Nat) : bL (x &&& y) j = (bL x j && bL y j) := by simp [bL]
theorem bL_or (x y : Int64) (j : Nat) : bL (x ||| y) j = (bL x j || bL y j) := by simp [bL]
theorem bL_xor (x y : Int64) (j : Nat) : bL (x ^^^ y) j = (bL x j ^^ bL y j) := by simp [bL]
theorem bL_m1 : ∀ j, j < 64 → bL (-1) j = true := by decide +kernel
theorem bL_0 (j : Nat) : bL 0 j = false := by simp [bL]
theorem bL_big {x : Int64} {j : Nat} (h : 64 ≤ j) : bL x j = false := BitVec.getLsbD_of_ge _ _ h
theorem bL_shl (x : Int64) {k j : Nat} (hk : k < 64) (hj : j < 64) : bL (x <<< ((nI k).toInt64 &&& 63)) j = (decide (k ≤ j) && bL x (j - k)) := by
  rw [wb_c k hk]
  unfold bL
  rw [Int64.toBitVec_shiftLeft, wb_tb, wb_sm k hk, BitVec.shiftLeft_eq', BitVec.getLsbD_shiftLeft, BitVec.toNat_ofNat, Nat.mod_eq_of_lt (show k < 2 ^ 64 by omega)]
  by_cases q : k ≤ j
  · simp [hj, q, Nat.not_lt.mpr q]
  · simp [hj, q, Nat.lt_of_not_le q]
theorem bL_ushr (x : Int64) {k : Nat} (hk : k < 64) (j : Nat) : bL ((x.toUInt64 >>> ((nI k).toInt64.toUInt64 &&& Int64.toUInt64 63)).toInt64) j = bL x (k + j) := by
  rw [wb_cu k hk]
  unfold bL
  have e : (x.toUInt64 >>> UInt64.ofNat k).toInt64.toBitVec = x.toBitVec >>> k := by
    show (x.toUInt64 >>> UInt64.ofNat k).toBitVec = _
    rw [UInt64.toBitVec_shiftRight]
    apply BitVec.eq_of_toNat_eq
    rw [BitVec.ushiftRight_eq', BitVec.toNat_ushiftRight, BitVec.toNat_ushiftRight]
    congr 1
    simp
    omega
  rw [e, BitVec.getLsbD_ushiftRight]
/-- a bill's letters over a row's -/
theorem PkL.paint {old bits ink : Int64} {f g : Nat → Nat} {x bw : Nat} (hf : PkL old f) (hb : PkB bits (5 * bw)) (hg : PkL ink g) (hx : x + bw ≤ 8) (hg0 : ∀ i, bw ≤ i → g i = 0) : PkL ((old &&& ((bits <<< ((nI (5 * x)).toInt64 &&& 63)) ^^^ (-1))) ||| (ink <<< ((nI (5 * x)).toInt64 &&& 63))) (fun i => if x ≤ i ∧ i < x + bw then g (i - x) else f i) := by
  intro j hj
  rw [bL_or, bL_and, bL_xor, bL_m1 j hj, bL_shl bits (by omega) hj, bL_shl ink (by omega) hj, hf j hj, hb _ (by omega), hg _ (by omega)]
  by_cases q : 5 * x ≤ j
  · have e1 : (j - 5 * x) / 5 = j / 5 - x := by omega
    have e2 : (j - 5 * x) % 5 = j % 5 := by omega
    simp only [q, decide_true, Bool.true_and, e1, e2, Bool.xor_true]
    by_cases q2 : j - 5 * x < 5 * bw
    · have e3 : x ≤ j / 5 ∧ j / 5 < x + bw := by omega
      have e4 : j < 40 := by omega
      have e5 : j - 5 * x < 40 := by omega
      simp [q2, e3, e4, e5]
    · have e3 : ¬ (x ≤ j / 5 ∧ j / 5 < x + bw) := by omega
      have e4 : g (j / 5 - x) = 0 := hg0 _ (by omega)
      simp only [q2, decide_false, Bool.not_false, Bool.and_true, if_neg e3, e4, Nat.zero_testBit, Bool.and_false, Bool.or_false]
  · have e3 : ¬ (x ≤ j / 5 ∧ j / 5 < x + bw) := by omega
    simp only [q, decide_false, Bool.false_and, Bool.false_xor, Bool.and_true, Bool.or_false, if_neg e3]
theorem PkL.congr {v : Int64} {f g : Nat → Nat} (h : PkL v f) (e : ∀ i, i < 8 → f i = g i) : PkL v g := fun j hj => by
  rw [h j hj]
  by_cases q : j < 40
  · rw [e (j / 5) (by omega)]
  · simp [q]
theorem PkL.inj {u v : Int64} {f : Nat → Nat} (h1 : PkL u f) (h2 : PkL v f) : u = v := bL_ext fun j hj => (h1 j hj).trans (h2 j hj).symm
/-- a word stands from x on -/
theorem PkL.word {v bits wd : Int64} {f g : Nat → Nat} {x l : Nat} (hf : PkL v f) (hb : PkB bits (5 * l)) (hg : PkL wd (fun i => if i < l then g i else 0)) (hx : x + l ≤ 8) (hf5 : ∀ i, f i < 32) (hg5 : ∀ i, i < l → g i < 32) : ((v.toUInt64 >>> ((nI (5 * x)).toInt64.toUInt64 &&& Int64.toUInt64 63)).toInt64 &&& bits = wd) ↔ ∀ i, i < l → f (x + i) = g i := by
  have lhs : PkL ((v.toUInt64 >>> ((nI (5 * x)).toInt64.toUInt64 &&& Int64.toUInt64 63)).toInt64 &&& bits) (fun i => if i < l then f (x + i) else 0) := by
    intro j hj
    rw [bL_and, bL_ushr v (by omega) j, hb j hj]
    by_cases q : j < 5 * l
    · have e1 : (5 * x + j) / 5 = x + j / 5 := by omega
      have e2 : (5 * x + j) % 5 = j % 5 := by omega
      rw [hf _ (by omega), e1, e2]
      have e3 : j / 5 < l := by omega
      simp only [q, decide_true, Bool.and_true, e3, if_true, show 5 * x + j < 40 by omega, show j < 40 by omega]
    · have e3 : ¬ j / 5 < l := by omega
      simp [q, e3]
  constructor
  · intro e i hi
    rw [e] at lhs
    apply Nat.eq_of_testBit_eq
    intro k
    by_cases hk : k < 5
    · have h1 := lhs (5 * i + k) (by omega)
      rw [hg (5 * i + k) (by omega)] at h1
      rw [show (5 * i + k) / 5 = i by omega, show (5 * i + k) % 5 = k by omega] at h1
      simpa [show 5 * i + k < 40 by omega, hi] using h1.symm
    · have big : ∀ z, z < 32 → z.testBit k = false := fun z hz => Nat.testBit_lt_two_pow (Nat.lt_of_lt_of_le hz (by
        have : 2 ^ 5 ≤ 2 ^ k := Nat.pow_le_pow_right (by decide) (by omega)
        omega))
      rw [big _ (hf5 _), big _ (hg5 _ hi)]
  · intro e
    refine PkL.inj lhs (hg.congr fun i _ => ?_)
    split
    · next q => exact (e i q).symm
    · rfl
section
variable {sa : Nat → Nat} {d n t h m : Nat} {Q : mj_Q} {K : Nat → Nat × Nat} {FI : Nat → Nat → Int32} {FL : Nat → Nat → Int64} {FR : Nat → Nat → Option Nat} {AI : Nat → Nat → Int32} {AL : Nat → Nat → Int64} {AR : Nat → Nat → Option Nat} {w : Wl} {hs : Nat → Hg}
theorem lg_cmp_0 (x y : Int64) : lg_cmp x y = 0 ↔ x = y := by
  unfold lg_cmp
  constructor
  · intro h
    split at h
    · cases h
    · split at h
      · next e => exact e
      · cases h
  · intro h
    subst h
    simp
/-- how often a word stands in a row of letters -/
def inRow (w : Wl) (v : Nat) (f : Nat → Nat) : Nat := ct (fun x => !(ex (fun i => f (x + i) != wWT w v i + 1) (wWL w v))) (wW w + 1 - wWL w v)
theorem c_timesIn (hT : ToldS K FR t) (hw : wOK w) (hR : ToldR FI AI AL t w) {v : Nat} (hv : v < wNW w) {r : Int64} {f : Nat → Nat} (hf : PkL r f) (hf5 : ∀ i, f i < 32) (hQ : Q (some (.int (nI (inRow w v f)))) (n, K, FI, FL, FR, AI, AL, AR)) : EV sa (d + 1) 94 [.ref t, .long r, .int (nI v)] (n, K, FI, FL, FR, AI, AL, AR) Q := by
  obtain ⟨k0, -, -, -, -, -, -, -, -, ⟨f9, k9⟩, ⟨f10, k10⟩, ⟨f11, k11⟩, -⟩ := hT
  obtain ⟨⟨w1, -⟩, -, r3, -⟩ := hR
  obtain ⟨v1, v2, v3⟩ := r3 v hv
  obtain ⟨⟨l1, l2⟩, l3⟩ := hw.2.2.2.2.2.2.2 v hv
  have hW := hw.1
  have hv6 : v < 6 := by have := hw.2.2.2.2.2.1; omega
  have hin : vp_in (nI v) 6 := vp_in_nI hv6 (by decide)
  have hcl : (nI v).toNatClampNeg = v := nI_clamp (by omega)
  generalize hp : (fun x => !(ex (fun i => f (x + i) != wWT w v i + 1) (wWL w v))) = p
  have hQ' : Q (some (.int (nI (ct p (wW w + 1 - wWL w v))))) (n, K, FI, FL, FR, AI, AL, AR) := by rw [← hp]; exact hQ
  have loop : ∀ rr i, i + rr = wW w + 1 - wWL w v → WP sa (EV sa d) 94 Q 0 0 6 [.ref t, .long r, mj_u, .int (nI v), .int (nI (ct p i)), .int (nI i)] [] (n, K, FI, FL, FR, AI, AL, AR) := by
    intro rr
    induction rr with
    | zero =>
      intro i hi
      rw [e94_6]
      simp only [e94_0, e94_1, e94_3, e94_4, e94_8, e94_9, e94_12, e94_13, e94_14, e94_15, e94_16, e94_19, e94_22, e94_23, e94_24, e94_26, e94_27, e94_28, e94_29, e94_32, e94_33, e94_34, e94_35, e94_36, e94_39, e94_40, e94_41, e94_42, e94_45, e94_48, e94_51, e94_54, e94_56, k0, f11, k11, rf_some, hin, hcl, v1, w1, nI_add, true_and, true_or]
      have hi' : i = wW w + 1 - wWL w v := by omega
      subst hi'
      exact ⟨fun _ => hQ', fun q => absurd (nI_lt (by omega) (by omega)) q⟩
    | succ rr ih =>
      intro i hi
      have nx := ih (i + 1) (by omega)
      have e5 : (5 : Int32) * nI i = nI (5 * i) := by rw [show (5 : Int32) = nI 5 from rfl, pk_mul]
      have hwd := PkL.word (x := i) hf v2 v3 (by omega) hf5 (fun j hj => by have := l3 j hj; omega)
      have hpi : (∀ j, j < wWL w v → f (i + j) = wWT w v j + 1) ↔ p i = true := by
        rw [← hp]
        simp only [Bool.not_eq_true', ex_false]
        simp
      rw [e94_6]
      simp only [e94_0, e94_1, e94_3, e94_4, e94_8, e94_9, e94_12, e94_13, e94_14, e94_15, e94_16, e94_19, e94_22, e94_23, e94_24, e94_26, e94_27, e94_28, e94_29, e94_32, e94_33, e94_34, e94_35, e94_36, e94_39, e94_40, e94_41, e94_42, e94_45, e94_48, e94_51, e94_54, e94_56, k0, f9, f10, f11, k9, k10, k11, rf_some, hin, hcl, v1, w1, nI_add, nI_1, e5, lg_cmp_0, hwd, hpi, true_and, true_or, mj_kl]
      refine ⟨fun q => absurd q (nI_nlt (by omega) (by omega)), fun _ => ⟨fun q => ?_, fun q => ?_⟩⟩
      · have q' : p i = false := by simpa using q
        simpa [ct, q'] using nx
      · have q' : p i = true := by simpa using q
        simpa [ct, q'] using nx
  refine n94 k0 ?_
  simp only [e94_0, e94_1, e94_3, e94_4, e94_8, e94_9, e94_12, e94_13, e94_14, e94_15, e94_16, e94_19, e94_22, e94_23, e94_24, e94_26, e94_27, e94_28, e94_29, e94_32, e94_33, e94_34, e94_35, e94_36, e94_39, e94_40, e94_41, e94_42, e94_45, e94_48, e94_51, e94_54, e94_56, mj_kl]
  simpa [mj_u, ct, nI_0, mj_kl] using loop (wW w + 1 - wWL w v) 0 (by omega)
end
