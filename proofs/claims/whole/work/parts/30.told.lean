section
variable {sa : Nat → Nat} {d n t h : Nat} {Q : mj_Q} {K : Nat → Nat × Nat} {FI : Nat → Nat → Int32} {FL : Nat → Nat → Int64} {FR : Nat → Nat → Option Nat} {AI : Nat → Nat → Int32} {AL : Nat → Nat → Int64} {AR : Nat → Nat → Option Nat}
theorem rf_some (q : Nat) : va_rf (some q) = Value.ref q := rfl
theorem tl_some (v : Value) (r : List Value) : (some v).toList ++ r = v :: r := rfl
theorem tl_none (r : List Value) : (none : Option Value).toList ++ r = r := rfl
/-- where a Told has its arrays -/
def ToldS (K : Nat → Nat × Nat) (FR : Nat → Nat → Option Nat) (t : Nat) : Prop := K t = (1, 6) ∧ (FR 391 t = some (t + 1) ∧ K (t + 1) = (2, 4)) ∧ (FR 392 t = some (t + 2) ∧ K (t + 2) = (2, 4)) ∧ (FR 393 t = some (t + 3) ∧ K (t + 3) = (2, 4)) ∧ (FR 394 t = some (t + 4) ∧ K (t + 4) = (2, 4)) ∧ (FR 395 t = some (t + 5) ∧ K (t + 5) = (2, 4)) ∧ (FR 396 t = some (t + 6) ∧ K (t + 6) = (2, 4)) ∧ (FR 397 t = some (t + 7) ∧ K (t + 7) = (4, 16)) ∧ (FR 398 t = some (t + 8) ∧ K (t + 8) = (4, 4)) ∧ (FR 399 t = some (t + 9) ∧ K (t + 9) = (4, 6)) ∧ (FR 400 t = some (t + 10) ∧ K (t + 10) = (4, 6)) ∧ (FR 401 t = some (t + 11) ∧ K (t + 11) = (2, 6)) ∧ (FR 402 t = some (t + 12) ∧ K (t + 12) = (2, 32)) ∧ (FR 403 t = some (t + 13) ∧ K (t + 13) = (2, 32))
theorem c_cells (hT : ToldS K FR t) (hQ : Q (some (.int (FI 384 t * FI 385 t))) (n, K, FI, FL, FR, AI, AL, AR)) : EV sa (d + 1) 92 [.ref t] (n, K, FI, FL, FR, AI, AL, AR) Q := by
  obtain ⟨k0, -⟩ := hT
  refine n92 k0 ?_
  simp only [e92_0, e92_1, e92_4, e92_5, e92_8, e92_9, k0, true_and]
  exact hQ
theorem c_cellsOf (hT : ToldS K FR t) {b c : Int32} (hb : vp_in b 4) (hQ : Q (some (.int (AI (t + 5) b.toNatClampNeg <<< (c &&& 31)))) (n, K, FI, FL, FR, AI, AL, AR)) : EV sa (d + 1) 91 [.ref t, .int b, .int c] (n, K, FI, FL, FR, AI, AL, AR) Q := by
  obtain ⟨k0, -, -, -, -, ⟨f5, k5⟩, -⟩ := hT
  refine n91 k0 ?_
  simp only [e91_0, e91_1, e91_4, e91_5, e91_6, e91_7, e91_8, k0, f5, k5, rf_some, hb, true_and, true_or]
  exact hQ
theorem c_fits (hT : ToldS K FR t) {b c : Int32} (hb : vp_in b 4) (hQ : ∀ r : Int32, r = (if ((AI (t + 6) b.toNatClampNeg).toUInt32 >>> (c.toUInt32 &&& Int32.toUInt32 31)).toInt32 &&& 1 = 0 then 0 else 1) → Q (some (.int r)) (n, K, FI, FL, FR, AI, AL, AR)) : EV sa (d + 1) 90 [.ref t, .int b, .int c] (n, K, FI, FL, FR, AI, AL, AR) Q := by
  obtain ⟨k0, -, -, -, -, -, ⟨f6, k6⟩, -⟩ := hT
  refine n90 k0 ?_
  simp only [e90_0, e90_1, e90_4, e90_5, e90_6, e90_7, e90_8, e90_9, e90_10, e90_13, e90_14, e90_17, e90_18, k0, f6, k6, rf_some, hb, true_and, true_or, or_true]
  exact ⟨fun q => hQ _ (by simp [q]), fun q => hQ _ (by simp [q])⟩
theorem c_lawOf (hT : ToldS K FR t) {b : Int32} (hb : vp_in b 4) (hQ : ∀ r : Int32, r = (if AI (t + 1) b.toNatClampNeg = 1 then FI 386 t + 1 else FI 386 t) → Q (some (.int r)) (n, K, FI, FL, FR, AI, AL, AR)) : EV sa (d + 1) 93 [.ref t, .int b] (n, K, FI, FL, FR, AI, AL, AR) Q := by
  obtain ⟨k0, ⟨f1, k1⟩, -⟩ := hT
  refine n93 k0 ?_
  simp only [e93_0, e93_1, e93_4, e93_5, e93_6, e93_7, e93_10, e93_11, e93_14, e93_15, e93_16, e93_19, e93_20, e93_23, k0, f1, k1, rf_some, hb, true_and, true_or]
  exact ⟨fun q => hQ _ (by simp [q]), fun q => hQ _ (by simp at q; simp [q])⟩
theorem c_cellAt (hT : ToldS K FR t) {x y : Int32} (hQ : ∀ r : Int32, r = (if x < 0 ∨ FI 384 t ≤ x ∨ y < 0 ∨ FI 385 t ≤ y then -1 else FI 384 t * y + x) → Q (some (.int r)) (n, K, FI, FL, FR, AI, AL, AR)) : EV sa (d + 1) 88 [.ref t, .int x, .int y] (n, K, FI, FL, FR, AI, AL, AR) Q := by
  obtain ⟨k0, -⟩ := hT
  refine n88 k0 ?_
  simp only [e88_0, e88_1, e88_4, e88_5, e88_6, e88_9, e88_12, e88_13, e88_16, e88_17, e88_18, e88_21, e88_24, e88_25, e88_28, e88_29, e88_32, e88_33, e88_34, e88_35, e88_36, k0, true_and]
  refine ⟨fun q1 => hQ _ (by simp only [q1, true_or, if_true]), fun q1 => ⟨fun q2 => hQ _ (by simp only [q2, true_or, or_true, if_true]), fun q2 => ⟨fun q3 => hQ _ (by simp only [q3, true_or, or_true, if_true]), fun q3 => ⟨fun q4 => hQ _ ?_, fun q4 => hQ _ ?_⟩⟩⟩⟩
  · simp only [q1, q2, q3, Int32.not_le.mpr q4, or_self, if_false]
  · simp only [Int32.not_lt.mp q4, or_true, if_true]
theorem c_cornerAt (hT : ToldS K FR t) {b x y : Int32} (hb : vp_in b 4) (hQ : ∀ r c : Int32, c = (if x < 0 ∨ FI 384 t ≤ x ∨ y < 0 ∨ FI 385 t ≤ y then -1 else FI 384 t * y + x) → r = (if c < 0 ∨ ((AI (t + 6) b.toNatClampNeg).toUInt32 >>> (c.toUInt32 &&& Int32.toUInt32 31)).toInt32 &&& 1 = 0 then -1 else c) → Q (some (.int r)) (n, K, FI, FL, FR, AI, AL, AR)) : EV sa (d + 2) 89 [.ref t, .int b, .int x, .int y] (n, K, FI, FL, FR, AI, AL, AR) Q := by
  have k0 := hT.1
  refine n89 k0 ?_
  simp only [e89_0, e89_1, e89_2, e89_3, e89_6, e89_8, e89_10, e89_13, e89_14, e89_15, e89_17, e89_20, e89_23, e89_25, e89_28, e89_29]
  refine ⟨by simp, c_cellAt hT fun c hc => ?_⟩
  simp only [tl_some, e89_0, e89_1, e89_2, e89_3, e89_6, e89_8, e89_10, e89_13, e89_14, e89_15, e89_17, e89_20, e89_23, e89_25, e89_28, e89_29, mj_kl]
  refine ⟨fun q => hQ _ c hc (by simp only [q, true_or, if_true]), fun q => ⟨by simp, c_fits hT hb fun r hr => ?_⟩⟩
  simp only [tl_some, e89_0, e89_1, e89_2, e89_3, e89_6, e89_8, e89_10, e89_13, e89_14, e89_15, e89_17, e89_20, e89_23, e89_25, e89_28, e89_29]
  by_cases q2 : ((AI (t + 6) b.toNatClampNeg).toUInt32 >>> (c.toUInt32 &&& Int32.toUInt32 31)).toInt32 &&& 1 = 0
  · rw [if_pos q2] at hr
    subst hr
    exact ⟨fun _ => hQ _ c hc (by simp only [q2, or_true, if_true]), fun h => absurd rfl h⟩
  · rw [if_neg q2] at hr
    subst hr
    exact ⟨fun h => absurd h (by decide), fun _ => hQ _ c hc (by simp only [q, q2, or_self, if_false])⟩
end
