/-! ## the model's reading: its steps -/
def TSt (FI AI : Nat → Nat → Int32) (FL : Nat → Nat → Int64) (q : Nat) (T : Nat → Int32) (E : Nat) (res : (Nat × Nat) ⊕ Nat) : Prop := FI 651 q = nI E ∧ (match res with
  | .inl e => FI 653 q = 5 ∧ FI 658 q = nI e.1 ∧ FI 659 q = nI e.2
  | .inr p => MTok FI AI FL q T E p ∧ FI 658 q = 0)
def pFs : List Nat := [652, 653, 654, 655, 656, 657, 658, 659]
/-- what a step of reading changes -/
def PZ (q : Nat) (FI FI' AI AI' : Nat → Nat → Int32) (FL FL' : Nat → Nat → Int64) : Prop := FIx FI FI' q pFs ∧ FLx FL FL' q [661] ∧ AIx AI AI' (q + 4) (q + 4)
theorem PZ.rfl' {q : Nat} {FI AI : Nat → Nat → Int32} {FL : Nat → Nat → Int64} : PZ q FI FI AI AI FL FL := ⟨FIx.rfl', FLx.rfl', AIx.rfl'⟩
theorem PZ.trans {q : Nat} {FI F1 F2 AI A1 A2 : Nat → Nat → Int32} {FL L1 L2 : Nat → Nat → Int64} (a : PZ q FI F1 AI A1 FL L1) (b : PZ q F1 F2 A1 A2 L1 L2) : PZ q FI F2 AI A2 FL L2 := ⟨a.1.same b.1, a.2.1.trans b.2.1, a.2.2.trans b.2.2⟩
theorem TZ.toPZ {q : Nat} {FI F1 AI A1 : Nat → Nat → Int32} {FL L1 : Nat → Nat → Int64} (a : TZ q FI F1 AI A1 FL L1) : PZ q FI F1 AI A1 FL L1 := ⟨a.1.sub (by decide), a.2.1, a.2.2⟩
theorem PZ.fi {q k : Nat} {v : Int32} {FI AI : Nat → Nat → Int32} {FL : Nat → Nat → Int64} (hk : k ∈ pFs) : PZ q FI (mj_u2 FI k q v) AI AI FL FL := ⟨FIx_u2 hk, FLx.rfl', AIx.rfl'⟩
def MEnv (K : Nat → Nat × Nat) (FR : Nat → Nat → Option Nat) (AI : Nat → Nat → Int32) (q : Nat) (T : Nat → Int32) (E : Nat) : Prop := MStS K FR q ∧ AI (q + 3) = T ∧ BT T ∧ E ≤ 900
theorem MEnv.z {K : Nat → Nat × Nat} {FR : Nat → Nat → Option Nat} {FI FI' AI AI' : Nat → Nat → Int32} {FL FL' : Nat → Nat → Int64} {q E : Nat} {T : Nat → Int32} (h : MEnv K FR AI q T E) (z : PZ q FI FI' AI AI' FL FL') : MEnv K FR AI' q T E := ⟨h.1, by rw [z.2.2 _ (by omega)]; exact h.2.1, h.2.2⟩
theorem msr_4 {s : Nat} : msr s ≤ 4 := by unfold msr; split <;> (try split) <;> (try split) <;> (try split) <;> (try split) <;> omega
theorem msr_n5 {s : Nat} : ¬ nI (msr s) = 5 := fun e => by
  have h := msr_4 (s := s)
  have := (nI_eq (show msr s < 2 ^ 31 by omega) (show 5 < 2 ^ 31 by decide)).mp e
  omega
theorem msr_eq2 {s : Nat} (h : s ≤ 5) : nI (msr s) = 2 ↔ s = 1 := by
  have : s = 0 ∨ s = 1 ∨ s = 2 ∨ s = 3 ∨ s = 4 ∨ s = 5 := by omega
  rcases this with rfl | rfl | rfl | rfl | rfl | rfl <;> decide
theorem msr_eq3 {s : Nat} (h : s ≤ 5) : nI (msr s) = 3 ↔ s = 2 := by
  have : s = 0 ∨ s = 1 ∨ s = 2 ∨ s = 3 ∨ s = 4 ∨ s = 5 := by omega
  rcases this with rfl | rfl | rfl | rfl | rfl | rfl <;> decide
theorem msr_eq1 {s : Nat} (h : s ≤ 5) : nI (msr s) = 1 ↔ s = 0 := by
  have : s = 0 ∨ s = 1 ∨ s = 2 ∨ s = 3 ∨ s = 4 ∨ s = 5 := by omega
  rcases this with rfl | rfl | rfl | rfl | rfl | rfl <;> decide
theorem sg_59 {s : Nat} (h : s ≤ 5) : (nI (msr s) = 4 ∧ sgn s = 59) ↔ s = 3 := by
  have : s = 0 ∨ s = 1 ∨ s = 2 ∨ s = 3 ∨ s = 4 ∨ s = 5 := by omega
  rcases this with rfl | rfl | rfl | rfl | rfl | rfl <;> decide
theorem sg_44 {s : Nat} (h : s ≤ 5) : (nI (msr s) = 4 ∧ sgn s = 44) ↔ s = 4 := by
  have : s = 0 ∨ s = 1 ∨ s = 2 ∨ s = 3 ∨ s = 4 ∨ s = 5 := by omega
  rcases this with rfl | rfl | rfl | rfl | rfl | rfl <;> decide
def isKr (T : Nat → Int32) (E : Nat) (res : (Nat × Nat) ⊕ Nat) (x : Nat) : Bool := match res with
  | .inl _ => false
  | .inr p => isK T E p x
def isNr (T : Nat → Int32) (E : Nat) (res : (Nat × Nat) ⊕ Nat) : Bool := match res with
  | .inl _ => false
  | .inr p => isNm T E p
def sgr (T : Nat → Int32) (E : Nat) (res : (Nat × Nat) ⊕ Nat) (s : Nat) : Bool := match res with
  | .inl _ => false
  | .inr p => decide (srt T E p = s)
def stpr (T : Nat → Int32) (E : Nat) (res : (Nat × Nat) ⊕ Nat) : (Nat × Nat) ⊕ Nat := bd res fun p => .inr (stp T E p)
theorem isK_1 {T : Nat → Int32} {E p x : Nat} (h : isK T E p x = true) : srt T E p = 1 := by
  unfold isK at h
  have := (Bool.and_eq_true_iff.mp (Bool.and_eq_true_iff.mp h).1).1
  simpa using this
section
variable {sa : Nat → Nat} {d n t h m : Nat} {Q : mj_Q} {K : Nat → Nat × Nat} {FI : Nat → Nat → Int32} {FL : Nat → Nat → Int64} {FR : Nat → Nat → Option Nat} {AI : Nat → Nat → Int32} {AL : Nat → Nat → Int64} {AR : Nat → Nat → Option Nat} {w : Wl} {hs : Nat → Hg}
variable {q E a : Nat} {T : Nat → Int32} {res : (Nat × Nat) ⊕ Nat}
theorem TSt.sort (h : TSt FI AI FL q T E res) : (FI 653 q = 5) ↔ ∃ e, res = .inl e := by
  cases res with
  | inl e => exact ⟨fun _ => ⟨e, rfl⟩, fun _ => h.2.1⟩
  | inr p => exact ⟨fun z => absurd (h.2.1.2.2.1 ▸ z) msr_n5, fun ⟨e, z⟩ => by cases z⟩
theorem c_flaw (hE : MEnv K FR AI q T E) (h : TSt FI AI FL q T E res) {k : Nat} (hQ : ∀ FI' : Nat → Nat → Int32, TSt FI' AI FL q T E (bd res fun p => .inl (k, p)) → PZ q FI FI' AI AI FL FL → Q none (n, K, FI', FL, FR, AI, AL, AR)) : EV sa (d + 1) 183 [.ref q, .int (nI k)] (n, K, FI, FL, FR, AI, AL, AR) Q := by
  have k0 := hE.1.1
  refine n183 k0 ?_
  cases res with
  | inl e =>
    simp only [e183_0, e183_1, e183_4, e183_5, e183_8, e183_9, e183_10, e183_11, e183_14, e183_15, e183_16, e183_19, e183_22, e183_23, e183_24, e183_27, k0, h.2.1, true_and]
    exact ⟨fun z => absurd trivial z, fun _ => hQ FI h PZ.rfl'⟩
  | inr p =>
    have e3 := h.2.1.2.2.1
    have e4 := h.2.1.2.2.2.1
    have u1 : ∀ v : Int32, mj_u2 FI 658 q v 654 q = nI p := fun v => by rw [mj_u2_1 (by decide)]; exact e4
    simp only [e183_0, e183_1, e183_4, e183_5, e183_8, e183_9, e183_10, e183_11, e183_14, e183_15, e183_16, e183_19, e183_22, e183_23, e183_24, e183_27, k0, e3, u1, true_and]
    refine ⟨fun _ => hQ _ ⟨?_, mj_u2_s, ?_, ?_⟩ (((PZ.fi (by decide)).trans (PZ.fi (by decide))).trans (PZ.fi (by decide))), fun z => absurd msr_n5 z⟩
    · rw [mj_u2_1 (by decide), mj_u2_1 (by decide), mj_u2_1 (by decide)]; exact h.1
    · rw [mj_u2_1 (by decide), mj_u2_1 (by decide), mj_u2_s]
    · rw [mj_u2_1 (by decide), mj_u2_s]
theorem c_goesOnS (hE : MEnv K FR AI q T E) (h : TSt FI AI FL q T E res) (h5 : ∀ p, res = .inr p → srt T E p ≠ 5) (hQ : ∀ (FI' AI' : Nat → Nat → Int32) (FL' : Nat → Nat → Int64), TSt FI' AI' FL' q T E (stpr T E res) → PZ q FI FI' AI AI' FL FL' → Q none (n, K, FI', FL', FR, AI', AL, AR)) : EV sa (d + 2) 182 [.ref q] (n, K, FI, FL, FR, AI, AL, AR) Q := by
  have k0 := hE.1.1
  cases res with
  | inl e =>
    refine n182 k0 ?_
    simp only [e182_0, e182_1, e182_4, e182_5, e182_8, k0, h.2.1, true_and]
    exact ⟨fun z => absurd trivial z, fun _ => hQ FI AI FL h PZ.rfl'⟩
  | inr p =>
    obtain ⟨h1, h2, h3⟩ := h
    refine c_mgoesOn hE.1 hE.2.1 hE.2.2.1 h1 hE.2.2.2 (by rw [h2.2.2.1]; exact msr_n5) (nxt_le h2.1.2) (h2.2.1 (h5 p rfl)) fun F A L g1 g2 => ?_
    exact hQ F A L ⟨g1.1.1, g1, by rw [g2.1 _ _ (Or.inr (by decide))]; exact h3⟩ g2.toPZ
theorem c_wordOf {x : Nat} {μ : mj_M} (hx : x < 19) (hQ : Q (some (.long (lN (pkf (kwc x) (kwl x))))) μ) : EV sa (d + 10) 181 [.ref (sa x)] μ Q := by
  obtain ⟨h1, h8⟩ := kwl_ok x hx
  have loop : ∀ rr k, k + rr = kwl x → WP sa (EV sa (d + 9)) 181 Q 0 0 4 [.ref (sa x), .long (lN (pkf (kwc x) k)), mj_u, .int (nI k)] [] μ := by
    intro rr
    induction rr with
    | zero =>
      intro k hk
      have hk' : k = kwl x := by omega
      subst hk'
      rw [e181_4]
      simp only [e181_0, e181_1, e181_2, e181_3, e181_5, e181_6, e181_9, e181_12, e181_15, e181_16, e181_17, e181_18, e181_19, e181_22, e181_24, e181_25, e181_26, e181_27, e181_28, e181_29, e181_30, e181_33, e181_36, e181_37]
      refine ⟨by simp, c_strlen (by omega) ?_⟩
      simp only [tl_some, e181_0, e181_1, e181_2, e181_3, e181_5, e181_6, e181_9, e181_12, e181_15, e181_16, e181_17, e181_18, e181_19, e181_22, e181_24, e181_25, e181_26, e181_27, e181_28, e181_29, e181_30, e181_33, e181_36, e181_37]
      exact ⟨fun _ => hQ, fun z => absurd (nI_le (Nat.le_refl _) (by omega)) z⟩
    | succ rr ih =>
      intro k hk
      obtain ⟨w1, w2⟩ := kw_ok x hx k (by omega)
      have nx := ih (k + 1) (by omega)
      rw [e181_4]
      simp only [e181_0, e181_1, e181_2, e181_3, e181_5, e181_6, e181_9, e181_12, e181_15, e181_16, e181_17, e181_18, e181_19, e181_22, e181_24, e181_25, e181_26, e181_27, e181_28, e181_29, e181_30, e181_33, e181_36, e181_37]
      refine ⟨by simp, c_strlen (by omega) ?_⟩
      simp only [tl_some, e181_0, e181_1, e181_2, e181_3, e181_5, e181_6, e181_9, e181_12, e181_15, e181_16, e181_17, e181_18, e181_19, e181_22, e181_24, e181_25, e181_26, e181_27, e181_28, e181_29, e181_30, e181_33, e181_36, e181_37]
      refine ⟨fun z => absurd z (nI_ge (by omega) (by omega)), fun _ => ⟨by simp, c_strchar (by omega) (show k < kwl x by omega) (by omega) ?_⟩⟩
      have el : (32 : Int64) * lN (pkf (kwc x) k) + (nI (kwc x k + 1)).toInt64 = lN (pkf (kwc x) (k + 1)) := by
        rw [nI_l (by omega), show (32 : Int64) = lN 32 from rfl, lN_mul, lN_add]
        rfl
      simp only [tl_some, e181_0, e181_1, e181_2, e181_3, e181_5, e181_6, e181_9, e181_12, e181_15, e181_16, e181_17, e181_18, e181_19, e181_22, e181_24, e181_25, e181_26, e181_27, e181_28, e181_29, e181_30, e181_33, e181_36, e181_37, w1, el, nI_1, mj_kl]
      simpa [mj_u, mj_kl] using nx
  refine n181 ?_
  simp only [e181_0, e181_1, e181_2, e181_3, e181_5, e181_6, e181_9, e181_12, e181_15, e181_16, e181_17, e181_18, e181_19, e181_22, e181_24, e181_25, e181_26, e181_27, e181_28, e181_29, e181_30, e181_33, e181_36, e181_37, mj_kl]
  have := loop (kwl x) 0 (by omega)
  simpa [nI_0, pkf, lN_0, mj_u, mj_kl] using this
theorem c_isWordS (hE : MEnv K FR AI q T E) (h : TSt FI AI FL q T E res) {x : Nat} (hx : x < 19) (hQ : Q (some (.int (bI (isKr T E res x)))) (n, K, FI, FL, FR, AI, AL, AR)) : EV sa (d + 11) 184 [.ref q, .ref (sa x)] (n, K, FI, FL, FR, AI, AL, AR) Q := by
  have k0 := hE.1.1
  refine n184 k0 ?_
  cases res with
  | inl e =>
    simp only [e184_0, e184_1, e184_4, e184_5, e184_8, e184_9, e184_12, e184_13, e184_16, e184_17, e184_20, e184_21, e184_24, e184_25, k0, h.2.1, true_and, true_or]
    exact ⟨fun _ => hQ, fun z => absurd (by decide) z⟩
  | inr p =>
    have e3 := h.2.1.2.2.1
    have hs5 : srt T E p ≤ 5 := srt_5
    replace hQ : Q (some (.int (bI (isK T E p x)))) (n, K, FI, FL, FR, AI, AL, AR) := hQ
    simp only [e184_0, e184_1, e184_4, e184_5, e184_8, e184_9, e184_12, e184_13, e184_16, e184_17, e184_20, e184_21, e184_24, e184_25, k0, e3, msr_eq2 hs5, true_and, true_or, or_true]
    refine ⟨fun z => ?_, fun z => ⟨by simp, c_wordOf hx ?_⟩⟩
    · have : isK T E p x = false := by
        cases y : isK T E p x with
        | false => rfl
        | true => exact absurd (isK_1 y) z
      rw [this] at hQ
      exact hQ
    · have s1 := Classical.not_not.mp z
      obtain ⟨-, -, -, w8, w1, w26⟩ := srt_let s1
      obtain ⟨l1, l2, l3⟩ := h.2.1.2.2.2.2.2.1 s1
      obtain ⟨q1, q2⟩ := kwl_ok x hx
      have k26 : ∀ j, j < kwl x → kwc x j < 26 := fun j hj => (kw_ok x hx j hj).2
      have key : (FL 661 q = lN (pkf (kwc x) (kwl x))) ↔ isK T E p x = true := by
        have b1 := pkf_40 w8 w26
        have b2 := pkf_40 q2 k26
        rw [l2, fb_lN_inj (by omega) (by omega)]
        unfold isK
        rw [decide_eq_true s1, Bool.true_and, Bool.and_eq_true, decide_eq_true_eq, Bool.not_eq_true', ex_false]
        constructor
        · intro e
          obtain ⟨e1, e2⟩ := pkf_inj w26 k26 e
          exact ⟨e1, fun j hj => by simp [e2 j (by omega)]⟩
        · rintro ⟨e1, e2⟩
          rw [e1]
          refine pkf_congr fun j hj => ?_
          simpa using e2 j hj
      simp only [tl_some, e184_0, e184_1, e184_4, e184_5, e184_8, e184_9, e184_12, e184_13, e184_16, e184_17, e184_20, e184_21, e184_24, e184_25, lg_cmp_0, key, true_or, or_true, true_and]
      refine ⟨fun y => ?_, fun y => ?_⟩
      · rw [show isK T E p x = false by simpa using y] at hQ; exact hQ
      · rw [Classical.not_not.mp y] at hQ; exact hQ
theorem isKr_5 {x : Nat} (h : isKr T E res x = true) : ∀ p, res = .inr p → srt T E p ≠ 5 := fun p e => by
  subst e
  have := isK_1 (show isK T E p x = true from h)
  omega
theorem c_eatsWord (hE : MEnv K FR AI q T E) (h : TSt FI AI FL q T E res) {x : Nat} (hx : x < 19) (hQ : ∀ (FI' AI' : Nat → Nat → Int32) (FL' : Nat → Nat → Int64), TSt FI' AI' FL' q T E (if isKr T E res x then stpr T E res else res) → PZ q FI FI' AI AI' FL FL' → Q (some (.int (bI (isKr T E res x)))) (n, K, FI', FL', FR, AI', AL, AR)) : EV sa (d + 12) 185 [.ref q, .ref (sa x)] (n, K, FI, FL, FR, AI, AL, AR) Q := by
  have k0 := hE.1.1
  refine n185 k0 ?_
  simp only [e185_0, e185_1, e185_2, e185_5, e185_6, e185_7, e185_10, e185_11, e185_14, e185_15]
  refine ⟨by simp, c_isWordS hE h hx ?_⟩
  simp only [tl_some, e185_0, e185_1, e185_2, e185_5, e185_6, e185_7, e185_10, e185_11, e185_14, e185_15, bI_eq0, mj_kl]
  refine ⟨fun z => ?_, fun z => ⟨by simp, c_goesOnS hE h (isKr_5 (ts_nf z)) fun F A L g1 g2 => ?_⟩⟩
  · have := hQ FI AI FL (by rw [z]; exact h) PZ.rfl'
    exact ⟨Or.inl z, this⟩
  · have := hQ F A L (by rw [ts_nf z]; exact g1) g2
    simp only [tl_none, e185_0, e185_1, e185_2, e185_5, e185_6, e185_7, e185_10, e185_11, e185_14, e185_15]
    exact ⟨bI_01 _, this⟩
theorem c_eatsSign (hE : MEnv K FR AI q T E) (h : TSt FI AI FL q T E res) {s : Nat} {c : Int32} (hs : s = 3 ∧ c = 59 ∨ s = 4 ∧ c = 44) (hQ : ∀ (FI' AI' : Nat → Nat → Int32) (FL' : Nat → Nat → Int64), TSt FI' AI' FL' q T E (if sgr T E res s then stpr T E res else res) → PZ q FI FI' AI AI' FL FL' → Q (some (.int (bI (sgr T E res s)))) (n, K, FI', FL', FR, AI', AL, AR)) : EV sa (d + 3) 186 [.ref q, .int c] (n, K, FI, FL, FR, AI, AL, AR) Q := by
  have k0 := hE.1.1
  have no : sgr T E res s = false → Q (some (.int 0)) (n, K, FI, FL, FR, AI, AL, AR) := fun e => by
    have := hQ FI AI FL (by rw [e]; exact h) PZ.rfl'
    rw [e] at this
    exact this
  refine n186 k0 ?_
  cases res with
  | inl e =>
    simp only [e186_0, e186_1, e186_4, e186_5, e186_8, e186_9, e186_12, e186_13, e186_16, e186_17, e186_20, e186_21, e186_22, e186_23, e186_26, e186_27, e186_30, e186_31, k0, h.2.1, mj_kl, true_and, true_or]
    exact ⟨fun _ => ⟨fun _ => no rfl, fun z => absurd trivial z⟩, fun z => absurd (by decide) z⟩
  | inr p =>
    have e3 := h.2.1.2.2.1
    have e5 := h.2.1.2.2.2.2.1
    have hs5 : srt T E p ≤ 5 := srt_5
    have key : (nI (msr (srt T E p)) = 4 ∧ sgn (srt T E p) = c) ↔ srt T E p = s := by
      rcases hs with ⟨rfl, rfl⟩ | ⟨rfl, rfl⟩
      · exact sg_59 hs5
      · exact sg_44 hs5
    have e0 : ∀ b : Bool, (srt T E p = s ↔ b = true) → sgr T E (.inr p) s = b := fun b hb => by
      show decide (srt T E p = s) = b
      cases b with
      | true => exact decide_eq_true (hb.mpr rfl)
      | false => exact decide_eq_false (fun y => by have := hb.mp y; cases this)
    simp only [e186_0, e186_1, e186_4, e186_5, e186_8, e186_9, e186_12, e186_13, e186_16, e186_17, e186_20, e186_21, e186_22, e186_23, e186_26, e186_27, e186_30, e186_31, k0, e3, e5, mj_kl, true_and, true_or, or_true]
    refine ⟨fun z => ⟨fun _ => no (e0 false ⟨fun y => absurd (key.mpr y).1 z, fun y => by cases y⟩), fun y => absurd trivial y⟩, fun z => ⟨fun z2 => ⟨fun _ => no (e0 false ⟨fun y => absurd (key.mpr y).2 z2, fun y => by cases y⟩), fun y => absurd trivial y⟩, fun z2 => ⟨fun y => absurd y (by decide), fun _ => ⟨by simp, ?_⟩⟩⟩⟩
    have hsr := key.mp ⟨Classical.not_not.mp z, Classical.not_not.mp z2⟩
    have et := e0 true ⟨fun _ => rfl, fun _ => hsr⟩
    refine c_goesOnS hE h (fun p' e => ?_) fun F A L g1 g2 => ?_
    · cases e
      rcases hs with ⟨rfl, -⟩ | ⟨rfl, -⟩ <;> omega
    · have := hQ F A L (by rw [et]; exact g1) g2
      rw [et] at this
      simp only [tl_none, e186_0, e186_1, e186_4, e186_5, e186_8, e186_9, e186_12, e186_13, e186_16, e186_17, e186_20, e186_21, e186_22, e186_23, e186_26, e186_27, e186_30, e186_31, or_true, true_and]
      exact this
theorem c_needs (hE : MEnv K FR AI q T E) (h : TSt FI AI FL q T E res) {x : Nat} (hx : x < 19) (hQ : ∀ (FI' AI' : Nat → Nat → Int32) (FL' : Nat → Nat → Int64), TSt FI' AI' FL' q T E (bd res (pKey T E x)) → PZ q FI FI' AI AI' FL FL' → Q none (n, K, FI', FL', FR, AI', AL, AR)) : EV sa (d + 12) 187 [.ref q, .ref (sa x)] (n, K, FI, FL, FR, AI, AL, AR) Q := by
  have k0 := hE.1.1
  refine n187 k0 ?_
  simp only [e187_0, e187_1, e187_2, e187_5, e187_8, e187_9, e187_10, e187_13, e187_14, e187_17]
  refine ⟨by simp, c_isWordS hE h hx ?_⟩
  simp only [tl_some, e187_0, e187_1, e187_2, e187_5, e187_8, e187_9, e187_10, e187_13, e187_14, e187_17, bI_eq0]
  refine ⟨fun z => ⟨by simp, ?_⟩, fun z => ⟨by simp, ?_⟩⟩
  · have z' := ts_nf z
    refine c_goesOnS hE h (isKr_5 z') fun F A L g1 g2 => ?_
    simp only [tl_none, e187_0, e187_1, e187_2, e187_5, e187_8, e187_9, e187_10, e187_13, e187_14, e187_17]
    refine hQ F A L ?_ g2
    cases res with
    | inl e => cases z'
    | inr p =>
      show TSt F A L q T E (pKey T E x p)
      unfold pKey
      rw [if_pos (show isK T E p x = true from z')]
      exact g1
  · have z' : isKr T E res x = false := by simpa using z
    refine c_flaw (k := 1) hE h fun F g1 g2 => ?_
    simp only [tl_none, e187_0, e187_1, e187_2, e187_5, e187_8, e187_9, e187_10, e187_13, e187_14, e187_17]
    have e1 : (bd res fun p => (.inl (1, p) : (Nat × Nat) ⊕ Nat)) = bd res (pKey T E x) := by
      cases res with
      | inl e => rfl
      | inr p =>
        show (.inl (1, p) : (Nat × Nat) ⊕ Nat) = pKey T E x p
        unfold pKey
        rw [if_neg (by rw [show isK T E p x = false from z']; decide)]
    rw [e1] at g1
    refine ⟨by simp, c_goesOnS (hE.z g2) g1 (fun p' e => ?_) fun F2 A2 L2 g3 g4 => ?_⟩
    · exfalso
      cases res with
      | inl e' => cases e
      | inr p =>
        rw [← e1] at e
        cases e
    · simp only [tl_none, e187_0, e187_1, e187_2, e187_5, e187_8, e187_9, e187_10, e187_13, e187_14, e187_17]
      refine hQ F2 A2 L2 ?_ (g2.trans g4)
      have e2 : stpr T E (bd res (pKey T E x)) = bd res (pKey T E x) := by
        rw [← e1]
        cases res <;> rfl
      rw [e2] at g3
      exact g3
def whr (T : Nat → Int32) (E : Nat) (res : (Nat × Nat) ⊕ Nat) (l h : Nat) : (Nat × Nat) ⊕ (Nat × Nat) := bd res (pWh T E l h)
theorem c_readWhole (hE : MEnv K FR AI q T E) (h : TSt FI AI FL q T E res) {lo hi : Int32} {l u : Nat} (hl : ∀ p, res = .inr p → lo = nI l ∧ hi = nI u ∧ l < 1000 ∧ u < 1000) (hQ : ∀ (FI' AI' : Nat → Nat → Int32) (FL' : Nat → Nat → Int64) (v : Int32), TSt FI' AI' FL' q T E (bd (bd res (pWh T E l u)) fun x => .inr x.2) → (∀ x, bd res (pWh T E l u) = .inr x → v = nI x.1) → PZ q FI FI' AI AI' FL FL' → Q (some (.int v)) (n, K, FI', FL', FR, AI', AL, AR)) : EV sa (d + 3) 188 [.ref q, .int lo, .int hi] (n, K, FI, FL, FR, AI, AL, AR) Q := by
  have k0 := hE.1.1
  -- once a fault is there
  have over : ∀ (F A : Nat → Nat → Int32) (L : Nat → Nat → Int64) (e : Nat × Nat), MEnv K FR A q T E → TSt F A L q T E (.inl e) → PZ q FI F AI A FL L → bd res (pWh T E l u) = .inl e → WP sa (EV sa (d + 2)) 188 Q 0 0 33 [.ref q, .int lo, .int hi, mj_u] [] (n, K, F, L, FR, A, AL, AR) := by
    intro F A L e hE' h' hz he
    simp only [e188_0, e188_1, e188_4, e188_5, e188_8, e188_9, e188_10, e188_13, e188_16, e188_17, e188_20, e188_21, e188_22, e188_25, e188_28, e188_29, e188_30, e188_33, e188_34, e188_37, e188_38, e188_41, e188_42, e188_45, e188_46, e188_49, e188_50, e188_51, e188_54, e188_55, k0, h'.2.1, mj_kl, true_and]
    refine ⟨fun z => absurd trivial z, fun _ => ⟨by simp, c_goesOnS hE' h' (fun p y => by cases y) fun F2 A2 L2 g3 g4 => ?_⟩⟩
    simp only [tl_none, e188_0, e188_1, e188_4, e188_5, e188_8, e188_9, e188_10, e188_13, e188_16, e188_17, e188_20, e188_21, e188_22, e188_25, e188_28, e188_29, e188_30, e188_33, e188_34, e188_37, e188_38, e188_41, e188_42, e188_45, e188_46, e188_49, e188_50, e188_51, e188_54, e188_55]
    refine hQ F2 A2 L2 lo ?_ (fun x hx => by rw [he] at hx; cases hx) (hz.trans g4)
    rw [he]
    exact g3
  refine n188 k0 ?_
  cases res with
  | inl e =>
    simp only [e188_0, e188_1, e188_4, e188_5, k0, h.2.1, true_and]
    refine ⟨fun z => absurd z (by decide), fun _ => ?_⟩
    simp only [e188_8, e188_9, e188_10]
    refine ⟨by simp, c_flaw (k := 1) hE h fun F g1 g2 => ?_⟩
    simp only [tl_none, e188_13]
    exact over F AI FL e (hE.z g2) g1 g2 rfl
  | inr p =>
    obtain ⟨el, eh, l1, u1⟩ := hl p rfl
    have e3 := h.2.1.2.2.1
    have hs5 : srt T E p ≤ 5 := srt_5
    simp only [e188_0, e188_1, e188_4, e188_5, k0, e3, msr_eq3 hs5, true_and]
    refine ⟨fun s2 => ?_, fun s2 => ?_⟩
    · have en := h.2.1.2.2.2.2.2.2 s2
      have hnl := nmv_lt s2
      simp only [e188_16, e188_17, e188_20, e188_21, e188_22, k0, en, true_and]
      refine ⟨by simp, c_min ?_⟩
      simp only [tl_some, e188_25, e188_28, e188_29, e188_30, bI_eq0]
      rw [el, eh]
      have key : (nI l ≤ nI (nmv T E p) ∧ nI (nmv T E p) ≤ nI u) ↔ (l ≤ nmv T E p ∧ nmv T E p ≤ u) := and_congr (nI_leI (by omega) (by omega)) (nI_leI (by omega) (by omega))
      refine ⟨fun z => ?_, fun z => ⟨by simp, ?_⟩⟩
      · have z' := ts_nf z
        rw [decide_eq_true_eq, key] at z'
        have ew : pWh T E l u p = .inr (nmv T E p, stp T E p) := by unfold pWh; rw [if_pos s2, if_pos z']
        simp only [e188_0, e188_1, e188_4, e188_5, e188_8, e188_9, e188_10, e188_13, e188_16, e188_17, e188_20, e188_21, e188_22, e188_25, e188_28, e188_29, e188_30, e188_33, e188_34, e188_37, e188_38, e188_41, e188_42, e188_45, e188_46, e188_49, e188_50, e188_51, e188_54, e188_55, k0, e3, en, mj_kl, true_and]
        refine ⟨fun _ => ⟨by simp, c_goesOnS hE h (fun p' e => by cases e; omega) fun F2 A2 L2 g3 g4 => ?_⟩, fun y => absurd msr_n5 y⟩
        simp only [tl_none, e188_0, e188_1, e188_4, e188_5, e188_8, e188_9, e188_10, e188_13, e188_16, e188_17, e188_20, e188_21, e188_22, e188_25, e188_28, e188_29, e188_30, e188_33, e188_34, e188_37, e188_38, e188_41, e188_42, e188_45, e188_46, e188_49, e188_50, e188_51, e188_54, e188_55]
        refine hQ F2 A2 L2 _ ?_ (fun x hx => ?_) g4
        · show TSt F2 A2 L2 q T E (bd (pWh T E l u p) fun x => .inr x.2)
          rw [ew]
          exact g3
        · have hx' : pWh T E l u p = .inr x := hx
          rw [ew] at hx'
          cases hx'
          rfl
      · have z' : ¬ (l ≤ nmv T E p ∧ nmv T E p ≤ u) := fun y => z (by rw [decide_eq_true (key.mpr y)]; decide)
        have ew : pWh T E l u p = .inl (4, p) := by unfold pWh; rw [if_pos s2, if_neg z']
        refine c_flaw (k := 4) hE h fun F g1 g2 => ?_
        simp only [tl_none]
        have := over F AI FL (4, p) (hE.z g2) g1 g2 ew
        rw [el, eh] at this
        exact this
    · have ew : pWh T E l u p = .inl (1, p) := by unfold pWh; rw [if_neg s2]
      simp only [e188_8, e188_9, e188_10]
      refine ⟨by simp, c_flaw (k := 1) hE h fun F g1 g2 => ?_⟩
      simp only [tl_none, e188_13]
      exact over F AI FL (1, p) (hE.z g2) g1 g2 ew
theorem c_readPart (hE : MEnv K FR AI q T E) (h : TSt FI AI FL q T E res) {x : Nat} (hx : x < 19) {lo hi : Int32} {l u : Nat} (hl : ∀ p, res = .inr p → lo = nI l ∧ hi = nI u ∧ l < 1000 ∧ u < 1000) (hQ : ∀ (FI' AI' : Nat → Nat → Int32) (FL' : Nat → Nat → Int64) (v : Int32), TSt FI' AI' FL' q T E (bd (bd (bd res (pKey T E x)) (pWh T E l u)) fun x => .inr x.2) → (∀ y, bd (bd res (pKey T E x)) (pWh T E l u) = .inr y → v = nI y.1) → PZ q FI FI' AI AI' FL FL' → Q (some (.int v)) (n, K, FI', FL', FR, AI', AL, AR)) : EV sa (d + 13) 189 [.ref q, .ref (sa x), .int lo, .int hi] (n, K, FI, FL, FR, AI, AL, AR) Q := by
  have k0 := hE.1.1
  refine n189 k0 ?_
  simp only [e189_0, e189_1, e189_2, e189_5, e189_6, e189_7, e189_8, e189_11]
  refine ⟨by simp, c_needs hE h hx fun F A L g1 g2 => ?_⟩
  simp only [tl_none, e189_0, e189_1, e189_2, e189_5, e189_6, e189_7, e189_8, e189_11]
  refine ⟨by simp, c_readWhole (l := l) (u := u) (hE.z g2) g1 (fun p e => ?_) fun F2 A2 L2 v g3 g4 g5 => ?_⟩
  · cases res with
    | inl e' => cases e
    | inr p' => exact hl p' rfl
  · simp only [tl_some, e189_0, e189_1, e189_2, e189_5, e189_6, e189_7, e189_8, e189_11]
    exact hQ F2 A2 L2 v g3 g4 (g2.trans g5)
theorem c_isNameS (hE : MEnv K FR AI q T E) (h : TSt FI AI FL q T E res) (hQ : Q (some (.int (bI (isNr T E res)))) (n, K, FI, FL, FR, AI, AL, AR)) : EV sa (d + 12) 190 [.ref q] (n, K, FI, FL, FR, AI, AL, AR) Q := by
  have k0 := hE.1.1
  refine n190 k0 ?_
  cases res with
  | inl e =>
    simp only [e190_0, e190_1, e190_4, e190_5, e190_8, e190_9, e190_11, e190_14, e190_17, e190_18, e190_20, e190_23, e190_26, e190_27, e190_29, e190_32, e190_35, e190_36, e190_38, e190_41, e190_44, e190_45, e190_47, e190_50, e190_53, e190_54, e190_56, e190_59, e190_62, e190_63, e190_66, e190_67, k0, h.2.1, true_and, true_or]
    exact ⟨fun _ => hQ, fun z => absurd (by decide) z⟩
  | inr p =>
    have e3 := h.2.1.2.2.1
    have hs5 : srt T E p ≤ 5 := srt_5
    replace hQ : Q (some (.int (bI (isNm T E p)))) (n, K, FI, FL, FR, AI, AL, AR) := hQ
    have no : isNm T E p = false → Q (some (.int 0)) (n, K, FI, FL, FR, AI, AL, AR) := fun e => by rw [e] at hQ; exact hQ
    simp only [e190_0, e190_1, e190_4, e190_5, k0, e3, msr_eq2 hs5, true_and]
    refine ⟨fun z => ?_, fun z => ?_⟩
    · simp only [e190_0, e190_1, e190_4, e190_5, e190_8, e190_9, e190_11, e190_14, e190_17, e190_18, e190_20, e190_23, e190_26, e190_27, e190_29, e190_32, e190_35, e190_36, e190_38, e190_41, e190_44, e190_45, e190_47, e190_50, e190_53, e190_54, e190_56, e190_59, e190_62, e190_63, e190_66, e190_67, true_or, true_and]
      refine no ?_
      cases y : isNm T E p with
      | false => rfl
      | true => exact absurd (isNm_1 y) z
    · have s1 := Classical.not_not.mp z
      have yes : ∀ b0 b1 b2 b4 b3 b5 : Bool, isK T E p 0 = b0 → isK T E p 1 = b1 → isK T E p 2 = b2 → isK T E p 4 = b4 → isK T E p 3 = b3 → isK T E p 5 = b5 → isNm T E p = (!b0 && !b1 && !b2 && !b4 && !b3 && !b5) := fun b0 b1 b2 b4 b3 b5 h0 h1 h2 h4 h3 h5 => by
        unfold isNm
        rw [decide_eq_true s1, h0, h1, h2, h4, h3, h5, Bool.true_and]
      simp only [e190_0, e190_1, e190_4, e190_5, e190_8, e190_9, e190_11, e190_14, e190_17, e190_18, e190_20, e190_23, e190_26, e190_27, e190_29, e190_32, e190_35, e190_36, e190_38, e190_41, e190_44, e190_45, e190_47, e190_50, e190_53, e190_54, e190_56, e190_59, e190_62, e190_63, e190_66, e190_67, true_or, or_true, true_and]
      refine ⟨by simp, c_isWordS hE h (by decide) ?_⟩
      have hr : ∀ x, isKr T E (.inr p) x = isK T E p x := fun _ => rfl
      simp only [tl_some, e190_0, e190_1, e190_4, e190_5, e190_8, e190_9, e190_11, e190_14, e190_17, e190_18, e190_20, e190_23, e190_26, e190_27, e190_29, e190_32, e190_35, e190_36, e190_38, e190_41, e190_44, e190_45, e190_47, e190_50, e190_53, e190_54, e190_56, e190_59, e190_62, e190_63, e190_66, e190_67, bI_eq0, hr, true_or, or_true, true_and]
      refine ⟨fun z0 => no (by unfold isNm; rw [ts_nf z0]; simp), fun z0 => ⟨by simp, c_isWordS hE h (by decide) ?_⟩⟩
      simp only [tl_some, e190_0, e190_1, e190_4, e190_5, e190_8, e190_9, e190_11, e190_14, e190_17, e190_18, e190_20, e190_23, e190_26, e190_27, e190_29, e190_32, e190_35, e190_36, e190_38, e190_41, e190_44, e190_45, e190_47, e190_50, e190_53, e190_54, e190_56, e190_59, e190_62, e190_63, e190_66, e190_67, bI_eq0, hr, true_or, or_true, true_and]
      refine ⟨fun z1 => no (by unfold isNm; rw [ts_nf z1]; simp), fun z1 => ⟨by simp, c_isWordS hE h (by decide) ?_⟩⟩
      simp only [tl_some, e190_0, e190_1, e190_4, e190_5, e190_8, e190_9, e190_11, e190_14, e190_17, e190_18, e190_20, e190_23, e190_26, e190_27, e190_29, e190_32, e190_35, e190_36, e190_38, e190_41, e190_44, e190_45, e190_47, e190_50, e190_53, e190_54, e190_56, e190_59, e190_62, e190_63, e190_66, e190_67, bI_eq0, hr, true_or, or_true, true_and]
      refine ⟨fun z2 => no (by unfold isNm; rw [ts_nf z2]; simp), fun z2 => ⟨by simp, c_isWordS hE h (by decide) ?_⟩⟩
      simp only [tl_some, e190_0, e190_1, e190_4, e190_5, e190_8, e190_9, e190_11, e190_14, e190_17, e190_18, e190_20, e190_23, e190_26, e190_27, e190_29, e190_32, e190_35, e190_36, e190_38, e190_41, e190_44, e190_45, e190_47, e190_50, e190_53, e190_54, e190_56, e190_59, e190_62, e190_63, e190_66, e190_67, bI_eq0, hr, true_or, or_true, true_and]
      refine ⟨fun z4 => no (by unfold isNm; rw [ts_nf z4]; simp), fun z4 => ⟨by simp, c_isWordS hE h (by decide) ?_⟩⟩
      simp only [tl_some, e190_0, e190_1, e190_4, e190_5, e190_8, e190_9, e190_11, e190_14, e190_17, e190_18, e190_20, e190_23, e190_26, e190_27, e190_29, e190_32, e190_35, e190_36, e190_38, e190_41, e190_44, e190_45, e190_47, e190_50, e190_53, e190_54, e190_56, e190_59, e190_62, e190_63, e190_66, e190_67, bI_eq0, hr, true_or, or_true, true_and]
      refine ⟨fun z3 => no (by unfold isNm; rw [ts_nf z3]; simp), fun z3 => ⟨by simp, c_isWordS hE h (by decide) ?_⟩⟩
      simp only [tl_some, e190_0, e190_1, e190_4, e190_5, e190_8, e190_9, e190_11, e190_14, e190_17, e190_18, e190_20, e190_23, e190_26, e190_27, e190_29, e190_32, e190_35, e190_36, e190_38, e190_41, e190_44, e190_45, e190_47, e190_50, e190_53, e190_54, e190_56, e190_59, e190_62, e190_63, e190_66, e190_67, bI_eq0, hr, true_or, or_true, true_and]
      refine ⟨fun z5 => no (by unfold isNm; rw [ts_nf z5]; simp), fun z5 => ?_⟩
      rw [yes false false false false false false (by simpa using z0) (by simpa using z1) (by simpa using z2) (by simpa using z4) (by simpa using z3) (by simpa using z5)] at hQ
      exact hQ
end
