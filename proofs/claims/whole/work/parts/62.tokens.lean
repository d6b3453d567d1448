/-! ## tokens, purely: a tape T, its end E, a token's place p -/
def runF (P : Int32 → Bool) (T : Nat → Int32) : Nat → Nat → Nat
  | 0, i => i
  | f + 1, i => if P (T i) then runF P T f (i + 1) else i
def rn (P : Int32 → Bool) (T : Nat → Int32) (E i : Nat) : Nat := runF P T (E - i) i
def isSp (x : Int32) : Bool := decide (x = 32)
def isLet (x : Int32) : Bool := decide (97 ≤ x ∧ x ≤ 122)
def isDig (x : Int32) : Bool := decide (48 ≤ x ∧ x ≤ 57)
theorem rn_yes {P : Int32 → Bool} {T : Nat → Int32} {E i : Nat} (hi : i < E) (h : P (T i) = true) : rn P T E i = rn P T E (i + 1) := by
  unfold rn
  rw [show E - i = (E - (i + 1)) + 1 by omega]
  simp only [runF, h, if_true]
theorem rn_no {P : Int32 → Bool} {T : Nat → Int32} {E i : Nat} (h : P (T i) = false) : rn P T E i = i := by
  unfold rn
  cases E - i with
  | zero => rfl
  | succ f => simp [runF, h]
theorem rn_end {P : Int32 → Bool} {T : Nat → Int32} {E i : Nat} (h : E ≤ i) : rn P T E i = i := by
  unfold rn
  rw [show E - i = 0 by omega]
  rfl
theorem runF_b {P : Int32 → Bool} {T : Nat → Int32} : ∀ {f i : Nat}, i ≤ runF P T f i ∧ runF P T f i ≤ i + f
  | 0, i => ⟨Nat.le_refl _, Nat.le_refl _⟩
  | f + 1, i => by
    simp only [runF]
    split
    · have := runF_b (P := P) (T := T) (f := f) (i := i + 1)
      omega
    · omega
theorem rn_ge {P : Int32 → Bool} {T : Nat → Int32} {E i : Nat} : i ≤ rn P T E i := runF_b.1
theorem rn_le {P : Int32 → Bool} {T : Nat → Int32} {E i : Nat} (h : i ≤ E) : rn P T E i ≤ E := by
  have := (runF_b (P := P) (T := T) (f := E - i) (i := i)).2
  unfold rn
  omega
theorem runF_all {P : Int32 → Bool} {T : Nat → Int32} : ∀ {f i k : Nat}, i ≤ k → k < runF P T f i → P (T k) = true
  | 0, i, k, h1, h2 => by simp only [runF] at h2; omega
  | f + 1, i, k, h1, h2 => by
    simp only [runF] at h2
    split at h2
    · next h =>
      by_cases e : k = i
      · rw [e]; exact h
      · exact runF_all (by omega) h2
    · omega
theorem rn_all {P : Int32 → Bool} {T : Nat → Int32} {E i k : Nat} (h1 : i ≤ k) (h2 : k < rn P T E i) : P (T k) = true := runF_all h1 h2
/-- where the token behind p ends, of what sort it is, how long -/
def nxt (T : Nat → Int32) (E p : Nat) : Nat := if E ≤ p then p else if isLet (T p) then rn isLet T E p else if isDig (T p) then rn isDig T E p else p + 1
def wl (T : Nat → Int32) (E p : Nat) : Nat := nxt T E p - p
def srt (T : Nat → Int32) (E p : Nat) : Nat := if E ≤ p then 0 else if isLet (T p) then (if wl T E p ≤ 8 then 1 else 5) else if isDig (T p) then (if wl T E p ≤ 3 then 2 else 5) else if T p = 59 then 3 else if T p = 44 then 4 else 5
def stp (T : Nat → Int32) (E p : Nat) : Nat := rn isSp T E (nxt T E p)
def lt (T : Nat → Int32) (p k : Nat) : Nat := (T (p + k)).toNatClampNeg - 97
def nv (T : Nat → Int32) (p : Nat) : Nat → Nat
  | 0 => 0
  | k + 1 => nv T p k * 10 + ((T (p + k)).toNatClampNeg - 48)
def nmv (T : Nat → Int32) (E p : Nat) : Nat := nv T p (wl T E p)
theorem isLet_v {x : Int32} (h : isLet x = true) : x = nI (97 + (x.toNatClampNeg - 97)) ∧ x.toNatClampNeg - 97 < 26 := by
  simp only [isLet, decide_eq_true_eq] at h
  obtain ⟨j, hj, rfl⟩ := nI_of2 (M := 122) (n := 122) (by decide) (fun z => by have := Int32.lt_of_le_of_lt h.1 z; exact absurd this (by decide)) h.2
  rw [nI_clamp (by omega)]
  have h1 : 97 ≤ j := (nI_leI (a := 97) (by decide) (by omega)).mp h.1
  exact ⟨by congr 1; omega, by omega⟩
theorem isDig_v {x : Int32} (h : isDig x = true) : x = nI (48 + (x.toNatClampNeg - 48)) ∧ x.toNatClampNeg - 48 < 10 := by
  simp only [isDig, decide_eq_true_eq] at h
  obtain ⟨j, hj, rfl⟩ := nI_of2 (M := 57) (n := 57) (by decide) (fun z => by have := Int32.lt_of_le_of_lt h.1 z; exact absurd this (by decide)) h.2
  rw [nI_clamp (by omega)]
  have h1 : 48 ≤ j := (nI_leI (a := 48) (by decide) (by omega)).mp h.1
  exact ⟨by congr 1; omega, by omega⟩
/-- where Tokens has its text -/
def TokS (K : Nat → Nat × Nat) (FR : Nat → Nat → Option Nat) (tk ta : Nat) : Prop := K tk = (1, 5) ∧ FR 320 tk = some ta ∧ K ta = (3, 900)
def TokR (FI : Nat → Nat → Int32) (FL : Nat → Nat → Int64) (tk : Nat) (T : Nat → Int32) (E p : Nat) : Prop := FI 321 tk = nI E ∧ p ≤ E ∧ FI 322 tk = nI (nxt T E p) ∧ FI 323 tk = nI (srt T E p) ∧ FI 324 tk = nI p ∧ (srt T E p = 1 → FI 325 tk = nI (wl T E p) ∧ PkL (FL 326 tk) (fun k => if k < wl T E p then lt T p k + 1 else 0)) ∧ (srt T E p = 2 → FI 327 tk = nI (nmv T E p))
/-- fields of longs of one object -/
def FLx (FL FL' : Nat → Nat → Int64) (h : Nat) (fs : List Nat) : Prop := ∀ f a, (a ≠ h ∨ f ∉ fs) → FL' f a = FL f a
theorem FLx.rfl' {FL : Nat → Nat → Int64} {h : Nat} {fs : List Nat} : FLx FL FL h fs := fun _ _ _ => rfl
theorem FLx.trans {FL F1 F2 : Nat → Nat → Int64} {h : Nat} {fs : List Nat} (a : FLx FL F1 h fs) (b : FLx F1 F2 h fs) : FLx FL F2 h fs := fun f z hz => by rw [b f z hz, a f z hz]
theorem FIx.same {FI F1 F2 : Nat → Nat → Int32} {h : Nat} {fs : List Nat} (a : FIx FI F1 h fs) (b : FIx F1 F2 h fs) : FIx FI F2 h fs := fun f z hz => by rw [b f z hz, a f z hz]
theorem FIx_u2 {FI : Nat → Nat → Int32} {h k : Nat} {v : Int32} {fs : List Nat} (hk : k ∈ fs) : FIx FI (mj_u2 FI k h v) h fs := fun f a hq => if_neg fun z => by
  obtain ⟨rfl, rfl⟩ := z
  rcases hq with y | y
  · exact y rfl
  · exact y hk
theorem FLx_u2 {FL : Nat → Nat → Int64} {h k : Nat} {v : Int64} {fs : List Nat} (hk : k ∈ fs) : FLx FL (mj_u2 FL k h v) h fs := fun f a hq => if_neg fun z => by
  obtain ⟨rfl, rfl⟩ := z
  rcases hq with y | y
  · exact y rfl
  · exact y hk
section
variable {sa : Nat → Nat} {d n t h m : Nat} {Q : mj_Q} {K : Nat → Nat × Nat} {FI : Nat → Nat → Int32} {FL : Nat → Nat → Int64} {FR : Nat → Nat → Option Nat} {AI : Nat → Nat → Int32} {AL : Nat → Nat → Int64} {AR : Nat → Nat → Option Nat} {w : Wl} {hs : Nat → Hg}
variable {tk ta : Nat}
theorem c_isLetter (hS : TokS K FR tk ta) {i : Nat} (hi : i < 900) (hQ : Q (some (.int (bI (isLet (AI ta i))))) (n, K, FI, FL, FR, AI, AL, AR)) : EV sa (d + 1) 74 [.ref tk, .int (nI i)] (n, K, FI, FL, FR, AI, AL, AR) Q := by
  obtain ⟨k0, f0, ka⟩ := hS
  have hin : vp_in (nI i) 900 := vp_in_nI hi (by decide)
  have hcl : (nI i).toNatClampNeg = i := nI_clamp (by omega)
  refine n74 k0 ?_
  simp only [e74_0, e74_1, e74_4, e74_5, e74_6, e74_8, e74_11, e74_12, e74_15, e74_16, e74_17, e74_19, e74_22, e74_23, e74_26, e74_27, k0, f0, ka, rf_some, hin, hcl, true_and, true_or, or_true]
  refine ⟨fun z => ?_, fun z => ⟨fun z2 => ?_, fun z2 => ?_⟩⟩
  · rw [show isLet (AI ta i) = false by simp only [isLet, decide_eq_false_iff_not]; exact fun y => absurd z (Int32.not_lt.mpr y.1)] at hQ; exact hQ
  · rw [show isLet (AI ta i) = false by simp only [isLet, decide_eq_false_iff_not]; exact fun y => absurd z2 (Int32.not_lt.mpr y.2)] at hQ; exact hQ
  · rw [show isLet (AI ta i) = true by simp only [isLet, decide_eq_true_eq]; exact ⟨Int32.not_lt.mp z, Int32.not_lt.mp z2⟩] at hQ; exact hQ
theorem c_isDigit (hS : TokS K FR tk ta) {i : Nat} (hi : i < 900) (hQ : Q (some (.int (bI (isDig (AI ta i))))) (n, K, FI, FL, FR, AI, AL, AR)) : EV sa (d + 1) 75 [.ref tk, .int (nI i)] (n, K, FI, FL, FR, AI, AL, AR) Q := by
  obtain ⟨k0, f0, ka⟩ := hS
  have hin : vp_in (nI i) 900 := vp_in_nI hi (by decide)
  have hcl : (nI i).toNatClampNeg = i := nI_clamp (by omega)
  refine n75 k0 ?_
  simp only [e75_0, e75_1, e75_4, e75_5, e75_6, e75_8, e75_11, e75_12, e75_15, e75_16, e75_17, e75_19, e75_22, e75_23, e75_26, e75_27, k0, f0, ka, rf_some, hin, hcl, true_and, true_or, or_true]
  refine ⟨fun z => ?_, fun z => ⟨fun z2 => ?_, fun z2 => ?_⟩⟩
  · rw [show isDig (AI ta i) = false by simp only [isDig, decide_eq_false_iff_not]; exact fun y => absurd z (Int32.not_lt.mpr y.1)] at hQ; exact hQ
  · rw [show isDig (AI ta i) = false by simp only [isDig, decide_eq_false_iff_not]; exact fun y => absurd z2 (Int32.not_lt.mpr y.2)] at hQ; exact hQ
  · rw [show isDig (AI ta i) = true by simp only [isDig, decide_eq_true_eq]; exact ⟨Int32.not_lt.mp z, Int32.not_lt.mp z2⟩] at hQ; exact hQ
theorem c_takeWordT (hS : TokS K FR tk ta) {E p : Nat} (hE : E ≤ 900) (hp : p ≤ E) (h1 : FI 321 tk = nI E) (h2 : FI 322 tk = nI p) (h5 : FI 325 tk = nI 0) (hQ : ∀ (FI' : Nat → Nat → Int32) (FL' : Nat → Nat → Int64), FI' 322 tk = nI (rn isLet (AI ta) E p) → FI' 323 tk = nI (if rn isLet (AI ta) E p - p ≤ 8 then 1 else 5) → FI' 325 tk = nI (rn isLet (AI ta) E p - p) → (rn isLet (AI ta) E p - p ≤ 8 → PkL (FL' 326 tk) (fun k => if k < rn isLet (AI ta) E p - p then lt (AI ta) p k + 1 else 0)) → FIx FI FI' tk [322, 323, 325] → FLx FL FL' tk [326] → Q none (n, K, FI', FL', FR, AI, AL, AR)) : EV sa (d + 2) 76 [.ref tk] (n, K, FI, FL, FR, AI, AL, AR) Q := by
  obtain ⟨k0, f0, ka⟩ := id hS
  have loop : ∀ rr k, p + k + rr = E → rn isLet (AI ta) E p = rn isLet (AI ta) E (p + k) → ∀ (F : Nat → Nat → Int32) (G : Nat → Nat → Int64), F 322 tk = nI (p + k) → F 325 tk = nI k → PkL (G 326 tk) (fun j => if j < k ∧ j < 8 then lt (AI ta) p j + 1 else 0) → FIx FI F tk [322, 323, 325] → FLx FL G tk [326] → WP sa (EV sa (d + 1)) 76 Q 0 0 5 [.ref tk] [] (n, K, F, G, FR, AI, AL, AR) := by
    intro rr
    have fin : ∀ k, rn isLet (AI ta) E p = p + k → p + k ≤ E → ∀ (F : Nat → Nat → Int32) (G : Nat → Nat → Int64), F 322 tk = nI (p + k) → F 325 tk = nI k → PkL (G 326 tk) (fun j => if j < k ∧ j < 8 then lt (AI ta) p j + 1 else 0) → FIx FI F tk [322, 323, 325] → FLx FL G tk [326] → WP sa (EV sa (d + 1)) 76 Q 0 0 90 [.ref tk] [] (n, K, F, G, FR, AI, AL, AR) := by
      intro k hk hkE F G b1 b2 b3 b4 b5
      rw [hk, show p + k - p = k by omega] at hQ
      have fin2 : ∀ v : Int32, v = nI (if k ≤ 8 then 1 else 5) → Q none (n, K, mj_u2 F 323 tk v, G, FR, AI, AL, AR) := by
        intro v hv
        refine hQ _ G ?_ ?_ ?_ (fun h8 => b3.congr fun j hj => ?_) (b4.same (FIx_u2 (by simp))) b5
        · rw [mj_u2_1 (by decide)]; exact b1
        · rw [mj_u2_s]; exact hv
        · rw [mj_u2_1 (by decide)]; exact b2
        · have : (j < k ∧ j < 8) ↔ j < k := by omega
          simp only [this]
      simp only [e76_0, e76_1, e76_2, e76_6, e76_9, e76_10, e76_13, e76_16, e76_17, e76_18, e76_21, e76_24, e76_27, e76_28, e76_31, e76_33, e76_36, e76_37, e76_37i, e76_38, e76_41, e76_42, e76_45, e76_46, e76_49, e76_50, e76_52, e76_53, e76_54, e76_55, e76_56, e76_57, e76_58, e76_61, e76_62, e76_63, e76_64, e76_67, e76_68, e76_68i, e76_69, e76_72, e76_73, e76_74, e76_77, e76_78, e76_78i, e76_79, e76_82, e76_83, e76_84, e76_87, e76_90, e76_91, e76_92, e76_95, e76_97, e76_100, e76_101, e76_104, e76_105, e76_108, k0, b2, true_and]
      refine ⟨fun z => fin2 _ ?_, fun z => fin2 _ ?_⟩
      · have : ¬ k ≤ 8 := fun q => absurd z (nI_nlt (a := 8) (b := k) q (by decide))
        rw [if_neg this]; rfl
      · have : k ≤ 8 := by
          rcases Nat.lt_or_ge 8 k with q | q
          · exact absurd (nI_lt q (by omega)) z
          · exact q
        rw [if_pos this]; rfl
    induction rr with
    | zero =>
      intro k hk hr F G b1 b2 b3 b4 b5
      have e321 : F 321 tk = nI E := by rw [b4 321 tk (by simp)]; exact h1
      rw [e76_5]
      simp only [e76_0, e76_1, e76_2, e76_6, e76_9, e76_10, e76_13, e76_16, e76_17, e76_18, e76_21, e76_24, e76_27, e76_28, e76_31, e76_33, e76_36, e76_37, e76_37i, e76_38, e76_41, e76_42, e76_45, e76_46, e76_49, e76_50, e76_52, e76_53, e76_54, e76_55, e76_56, e76_57, e76_58, e76_61, e76_62, e76_63, e76_64, e76_67, e76_68, e76_68i, e76_69, e76_72, e76_73, e76_74, e76_77, e76_78, e76_78i, e76_79, e76_82, e76_83, e76_84, e76_87, e76_91, e76_92, e76_95, e76_97, e76_100, e76_101, e76_104, e76_105, e76_108, k0, b1, e321, true_and]
      refine ⟨fun _ => fin k (by rw [hr, rn_end (by omega)]) (by omega) F G b1 b2 b3 b4 b5, fun z => absurd (nI_le (by omega) (by omega)) z⟩
    | succ rr ih =>
      intro k hk hr F G b1 b2 b3 b4 b5
      have e321 : F 321 tk = nI E := by rw [b4 321 tk (by simp)]; exact h1
      rw [e76_5]
      simp only [e76_0, e76_1, e76_2, e76_6, e76_9, e76_10, e76_13, e76_16, e76_17, e76_18, e76_21, e76_24, e76_27, e76_28, e76_31, e76_33, e76_36, e76_37, e76_37i, e76_38, e76_41, e76_42, e76_45, e76_46, e76_49, e76_50, e76_52, e76_53, e76_54, e76_55, e76_56, e76_57, e76_58, e76_61, e76_62, e76_63, e76_64, e76_67, e76_68, e76_68i, e76_69, e76_72, e76_73, e76_74, e76_77, e76_78, e76_78i, e76_79, e76_82, e76_83, e76_84, e76_87, e76_91, e76_92, e76_95, e76_97, e76_100, e76_101, e76_104, e76_105, e76_108, k0, b1, e321, true_and]
      refine ⟨fun z => absurd z (nI_ge (by omega) (by omega)), fun _ => ⟨by simp, c_isLetter hS (by omega) ?_⟩⟩
      have hin : vp_in (nI (p + k)) 900 := vp_in_nI (by omega) (by decide)
      have hcl : (nI (p + k)).toNatClampNeg = p + k := nI_clamp (by omega)
      have u1 : ∀ x : Int32, mj_u2 F 325 tk x 322 tk = nI (p + k) := fun x => by rw [mj_u2_1 (by decide)]; exact b1
      simp only [tl_some, e76_0, e76_1, e76_2, e76_6, e76_9, e76_10, e76_13, e76_16, e76_17, e76_18, e76_21, e76_24, e76_27, e76_28, e76_31, e76_33, e76_36, e76_37, e76_37i, e76_38, e76_41, e76_42, e76_45, e76_46, e76_49, e76_50, e76_52, e76_53, e76_54, e76_55, e76_56, e76_57, e76_58, e76_61, e76_62, e76_63, e76_64, e76_67, e76_68, e76_68i, e76_69, e76_72, e76_73, e76_74, e76_77, e76_78, e76_78i, e76_79, e76_82, e76_83, e76_84, e76_87, e76_91, e76_92, e76_95, e76_97, e76_100, e76_101, e76_104, e76_105, e76_108, k0, f0, ka, rf_some, hin, hcl, b1, b2, u1, nI_1, true_and, bI_eq0]
      refine ⟨fun z => fin k (by rw [hr, rn_no z]) (by omega) F G b1 b2 b3 b4 b5, fun z => ?_⟩
      have z' : isLet (AI ta (p + k)) = true := by simpa using z
      obtain ⟨v1, v2⟩ := isLet_v z'
      have hr' : rn isLet (AI ta) E p = rn isLet (AI ta) E (p + (k + 1)) := by rw [hr, rn_yes (by omega) z', Nat.add_assoc]
      have nx : ∀ G' : Nat → Nat → Int64, PkL (G' 326 tk) (fun j => if j < k + 1 ∧ j < 8 then lt (AI ta) p j + 1 else 0) → FLx FL G' tk [326] → WP sa (EV sa (d + 1)) 76 Q 0 0 5 [.ref tk] [] (n, K, mj_u2 (mj_u2 F 325 tk (nI (k + 1))) 322 tk (nI (p + k + 1)), G', FR, AI, AL, AR) := fun G' c1 c2 =>
        ih (k + 1) (by omega) hr' _ G' mj_u2_s (by rw [mj_u2_1 (by decide), mj_u2_s]) c1 ((b4.same (FIx_u2 (by simp))).same (FIx_u2 (by simp))) c2
      refine ⟨fun y => nx G (b3.congr fun j hj => ?_) b5, fun y => nx _ ?_ (b5.trans (FLx_u2 (by simp)))⟩
      · have h8 : 8 ≤ k := (nI_leI (a := 8) (by decide) (by omega)).mp y
        have : (j < k ∧ j < 8) ↔ (j < k + 1 ∧ j < 8) := by omega
        simp only [this]
      · have h8 : k < 8 := by
          rcases Nat.lt_or_ge k 8 with q | q
          · exact q
          · exact absurd (nI_le (a := 8) q (by omega)) y
        have ev : AI ta (p + k) - 97 + 1 = nI (lt (AI ta) p k + 1) := by
          have v1' : AI ta (p + k) = nI (97 + lt (AI ta) p k) := v1
          rw [v1', show (97 : Int32) = nI 97 from rfl, nq_sub (by omega), nI_1, Nat.add_sub_cancel_left]
        have e5 : (5 : Int32) * nI k = nI (5 * k) := by rw [show (5 : Int32) = nI 5 from rfl, pk_mul]
        rw [ev, e5, mj_u2_s]
        have hl : lt (AI ta) p k < 26 := v2
        refine (b3.put (c := lt (AI ta) p k + 1) (i := k) h8 (by simp) (by omega)).congr fun j hj => ?_
        by_cases q : j = k
        · subst q
          rw [if_pos rfl, if_pos (by omega)]
        · rw [if_neg q]
          have : (j < k ∧ j < 8) ↔ (j < k + 1 ∧ j < 8) := by omega
          simp only [this]
  refine n76 k0 ?_
  simp only [e76_0, e76_1, e76_2, e76_6, e76_9, e76_10, e76_13, e76_16, e76_17, e76_18, e76_21, e76_24, e76_27, e76_28, e76_31, e76_33, e76_36, e76_37, e76_37i, e76_38, e76_41, e76_42, e76_45, e76_46, e76_49, e76_50, e76_52, e76_53, e76_54, e76_55, e76_56, e76_57, e76_58, e76_61, e76_62, e76_63, e76_64, e76_67, e76_68, e76_68i, e76_69, e76_72, e76_73, e76_74, e76_77, e76_78, e76_78i, e76_79, e76_82, e76_83, e76_84, e76_87, e76_91, e76_92, e76_95, e76_97, e76_100, e76_101, e76_104, e76_105, e76_108, k0, true_and]
  exact loop (E - p) 0 (by omega) rfl FI _ h2 h5 (fun j hj => by rw [mj_u2_s, bL_0]; simp) (fun _ _ _ => rfl) (FLx_u2 (by simp))
theorem nv_lt (T : Nat → Int32) (p : Nat) (h : ∀ k, (T (p + k)).toNatClampNeg - 48 < 10) : ∀ k, k ≤ 3 → nv T p k < 1000
  | 0, _ => by simp [nv]
  | 1, _ => by have := h 0; simp only [nv]; omega
  | 2, _ => by have h0 := h 0; have h1 := h 1; simp only [nv]; omega
  | 3, _ => by have h0 := h 0; have h1 := h 1; have h2 := h 2; simp only [nv]; omega
end
