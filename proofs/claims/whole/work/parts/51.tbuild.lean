theorem top_bits : ∀ l, l < 9 → ∀ c, c < 32 → bt (((1 : Int32) <<< (nI l &&& 31)) - 1) c = decide (c < l) := by decide +kernel
theorem ltb_bits : ∀ l, l < 9 → ∀ j, j < 64 → bL (((1 : Int64) <<< ((nI (5 * l)).toInt64 &&& 63)) - 1) j = decide (j < 5 * l) := by decide +kernel
theorem row_cell {W l i c : Nat} (hW : 0 < W) (hl : l ≤ W) : (W * i ≤ c ∧ c - W * i < l) ↔ (c % W < l ∧ c / W = i) := by
  have hX := Nat.mod_lt c hW
  have hc := Nat.div_add_mod c W
  constructor
  · rintro ⟨h1, h2⟩
    obtain ⟨x, rfl⟩ := Nat.exists_eq_add_of_le h1
    obtain ⟨a, b⟩ := cellxy (y := i) (show x < W by omega)
    rw [a, b]
    omega
  · rintro ⟨h1, rfl⟩
    omega
theorem bL_lN {c k : Nat} (hk : k < 64) : bL (lN c) k = c.testBit k := by
  unfold bL
  rw [wb_tb, BitVec.getLsbD_ofNat]
  simp [hk]
/-- one more letter -/
theorem PkL.put {v : Int64} {f : Nat → Nat} {c i : Nat} (h : PkL v f) (hi : i < 8) (h0 : f i = 0) (hc : c < 32) : PkL (v ||| ((nI c).toInt64 <<< ((nI (5 * i)).toInt64 &&& 63))) (fun x => if x = i then c else f x) := by
  intro j hj
  rw [bL_or, h j hj, bL_shl _ (by omega) hj, nI_l (by omega)]
  show _ = (decide (j < 40) && (if j / 5 = i then c else f (j / 5)).testBit (j % 5))
  by_cases q : 5 * i ≤ j
  · rw [bL_lN (by omega)]
    by_cases q2 : j / 5 = i
    · rw [if_pos q2, q2, h0, show j - 5 * i = j % 5 by omega, decide_eq_true q, decide_eq_true (show j < 40 by omega)]
      simp
    · have : c.testBit (j - 5 * i) = false := Nat.testBit_lt_two_pow (Nat.lt_of_lt_of_le hc (show 2 ^ 5 ≤ 2 ^ (j - 5 * i) from Nat.pow_le_pow_right (by decide) (by omega)))
      rw [if_neg q2, this]
      simp
  · rw [decide_eq_false q, if_neg (by omega)]
    simp
section
variable {sa : Nat → Nat} {d n t h m : Nat} {Q : mj_Q} {K : Nat → Nat × Nat} {FI : Nat → Nat → Int32} {FL : Nat → Nat → Int64} {FR : Nat → Nat → Option Nat} {AI : Nat → Nat → Int32} {AL : Nat → Nat → Int64} {AR : Nat → Nat → Option Nat} {w : Wl} {hs : Nat → Hg}
theorem c_block (hT : ToldS K FR t) {W l k : Nat} (hW : FI 384 t = nI W) (h1 : 2 ≤ W) (h8 : W ≤ 8) (hl : l ≤ W) (hk : k ≤ 4) (hQ : ∀ v : Int32, Mk v (fun c => decide (c % W < l ∧ c / W < k)) → Q (some (.int v)) (n, K, FI, FL, FR, AI, AL, AR)) : EV sa (d + 1) 85 [.ref t, .int (nI l), .int (nI k)] (n, K, FI, FL, FR, AI, AL, AR) Q := by
  have k0 := hT.1
  have loop : ∀ rr i, i + rr = k → ∀ v : Int32, Mk v (fun c => decide (c % W < l ∧ c / W < i)) → WP sa (EV sa d) 85 Q 0 0 12 [.ref t, .int (nI l), .int (nI k), .int (((1 : Int32) <<< (nI l &&& 31)) - 1), .int v, .int (nI i)] [] (n, K, FI, FL, FR, AI, AL, AR) := by
    intro rr
    induction rr with
    | zero =>
      intro i hi v hv
      have hi' : i = k := by omega
      subst hi'
      rw [e85_12]
      simp only [e85_0, e85_1, e85_2, e85_3, e85_4, e85_5, e85_6, e85_7, e85_9, e85_10, e85_14, e85_15, e85_18, e85_20, e85_21, e85_22, e85_25, e85_27, e85_28, e85_29, e85_30, e85_32, e85_35, e85_38, e85_40]
      exact ⟨fun _ => hQ v hv, fun q => absurd (nI_le (Nat.le_refl _) (by omega)) q⟩
    | succ rr ih =>
      intro i hi v hv
      rw [e85_12]
      have hWi : W * i ≤ 8 * 3 := Nat.mul_le_mul h8 (by omega)
      simp only [e85_0, e85_1, e85_2, e85_3, e85_4, e85_5, e85_6, e85_7, e85_9, e85_10, e85_14, e85_15, e85_18, e85_20, e85_21, e85_22, e85_25, e85_27, e85_28, e85_29, e85_30, e85_32, e85_35, e85_38, e85_40, k0, hW, pk_mul, nI_1, true_and, mj_kl]
      refine ⟨fun q => absurd q (nI_ge (by omega) (by omega)), fun _ => ih (i + 1) (by omega) _ (fun c hc => ?_)⟩
      rw [b_or, hv c hc, b_shl _ (by omega) _ hc]
      show (decide (c % W < l ∧ c / W < i) || _) = decide (c % W < l ∧ c / W < i + 1)
      have hr := row_cell (c := c) (i := i) (show 0 < W by omega) hl
      by_cases q : W * i ≤ c
      · rw [top_bits l (by omega) _ (by omega)]
        simp only [q, decide_true, Bool.true_and, true_and] at hr ⊢
        rw [← Bool.decide_or, decide_eq_decide, hr]
        omega
      · simp only [q, decide_false, Bool.false_and, Bool.or_false, false_and, false_iff] at hr ⊢
        rw [decide_eq_decide]
        omega
  refine n85 k0 ?_
  simp only [e85_0, e85_1, e85_2, e85_3, e85_4, e85_5, e85_6, e85_7, e85_9, e85_10, e85_14, e85_15, e85_18, e85_20, e85_21, e85_22, e85_25, e85_27, e85_28, e85_29, e85_30, e85_32, e85_35, e85_38, e85_40, mj_kl, mj_u]
  have := loop k 0 (by omega) 0 (Mk.zero.congr fun c _ => by simp)
  simpa [nI_0] using this
theorem c_lettersBits {l : Nat} {μ : mj_M} (hl : l < 9) (hQ : ∀ v : Int64, PkB v (5 * l) → Q (some (.long v)) μ) : EV sa (d + 1) 96 [.int (nI l)] μ Q := by
  refine n96 ?_
  have e5 : (5 : Int32) * nI l = nI (5 * l) := by rw [show (5 : Int32) = nI 5 from rfl, pk_mul]
  simp only [e96_0, e96_1, e96_2, e96_3, e96_4, e96_5, e96_6, e96_7, e5]
  exact hQ _ (ltb_bits l hl)
theorem c_inkedRow {bw row len : Nat} {txt : Int64} {T : Nat → Nat} {μ : mj_M} (hb : bw ≤ 8) (hr : row < 4) (hl1 : 1 ≤ len) (hl8 : len ≤ 8) (hT26 : ∀ i, i < len → T i < 26) (ht : PkL txt (fun i => if i < len then T i + 1 else 0)) (hQ : ∀ v : Int64, PkL v (fun x => if x < bw then T ((bw * row + x) % len) + 1 else 0) → Q (some (.long v)) μ) : EV sa (d + 2) 86 [.int (nI bw), .int (nI row), .long txt, .int (nI len)] μ Q := by
  have loop : ∀ rr i, i + rr = bw → ∀ v : Int64, PkL v (fun x => if x < i then T ((bw * row + x) % len) + 1 else 0) → ∀ x8 : Value, WP sa (EV sa (d + 1)) 86 Q 0 0 6 [.int (nI bw), .int (nI row), .long txt, mj_u, .int (nI len), .long v, mj_u, .int (nI i), x8] [] μ := by
    intro rr
    induction rr with
    | zero =>
      intro i hi v hv x8
      have hi' : i = bw := by omega
      subst hi'
      rw [e86_6]
      simp only [e86_0, e86_1, e86_3, e86_4, e86_8, e86_9, e86_12, e86_14, e86_17, e86_18, e86_19, e86_20, e86_22, e86_23, e86_25, e86_26, e86_28, e86_30, e86_31, e86_33, e86_36, e86_37, e86_38, e86_40, e86_41, e86_42, e86_43, e86_45, e86_48, e86_51, e86_53]
      exact ⟨fun _ => hQ v hv, fun q => absurd (nI_le (Nat.le_refl _) (by omega)) q⟩
    | succ rr ih =>
      intro i hi v hv x8
      have hbr : bw * row ≤ 8 * 3 := Nat.mul_le_mul hb (by omega)
      have hmod : (bw * row + i) % len < len := Nat.mod_lt _ (by omega)
      have erem := pk_rem (a := bw * row + i) (d := len) (by omega) (by omega) (by omega)
      have n0 : ¬ nI len = 0 := nI_ne0 (by omega) (by omega)
      rw [e86_6]
      simp only [e86_0, e86_1, e86_3, e86_4, e86_8, e86_9, e86_12, e86_14, e86_17, e86_18, e86_19, e86_20, e86_22, e86_23, e86_25, e86_26, e86_28, e86_30, e86_31, e86_33, e86_36, e86_37, e86_38, e86_40, e86_41, e86_42, e86_43, e86_45, e86_48, e86_51, e86_53, pk_mul, nI_add, erem, n0, not_false_eq_true, true_and, mj_kl]
      refine ⟨fun q => absurd q (nI_ge (by omega) (by omega)), fun _ => ⟨fun q => absurd q (nI_nle (by omega) (by omega)), fun _ => ⟨by simp, c_codeIn ht (fun j => ?_) (by omega) ?_⟩⟩⟩
      · split
        · next z => have := hT26 j z; omega
        · omega
      · have hm := hT26 _ hmod
        have e5 : (5 : Int32) * nI i = nI (5 * i) := by rw [show (5 : Int32) = nI 5 from rfl, pk_mul]
        simp only [tl_some, e86_0, e86_1, e86_3, e86_4, e86_8, e86_9, e86_12, e86_14, e86_17, e86_18, e86_19, e86_20, e86_22, e86_23, e86_25, e86_26, e86_28, e86_30, e86_31, e86_33, e86_36, e86_37, e86_38, e86_40, e86_41, e86_42, e86_43, e86_45, e86_48, e86_51, e86_53, e5, nI_1, mj_kl, mj_u, if_pos hmod]
        refine ih (i + 1) (by omega) _ ?_ _
        refine (hv.put (c := T ((bw * row + i) % len) + 1) (i := i) (by omega) (by simp) (by omega)).congr fun x hx => ?_
        by_cases q : x = i
        · subst q
          rw [if_pos rfl, if_pos (by omega)]
        · rw [if_neg q]
          have : (x < i) ↔ (x < i + 1) := by omega
          simp only [this]
  refine n86 ?_
  simp only [e86_0, e86_1, e86_3, e86_4, e86_8, e86_9, e86_12, e86_14, e86_17, e86_18, e86_19, e86_20, e86_22, e86_23, e86_25, e86_26, e86_28, e86_30, e86_31, e86_33, e86_36, e86_37, e86_38, e86_40, e86_41, e86_42, e86_43, e86_45, e86_48, e86_51, e86_53, mj_kl]
  have := loop bw 0 (by omega) 0 (fun j hj => by rw [bL_0]; simp) mj_u
  simpa [nI_0, mj_u, mj_kl] using this
end
