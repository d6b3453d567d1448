def kwc (x j : Nat) : Nat := ((mj_sby.getD x []).getD j 0).toNatClampNeg - 97
def kwl (x : Nat) : Nat := mj_sl.getD x 0
theorem kw_ok : ∀ x, x < 19 → ∀ j, j < kwl x → (mj_sby.getD x []).getD j 0 - 97 + 1 = nI (kwc x j + 1) ∧ kwc x j < 26 := by decide +kernel
theorem kwl_ok : ∀ x, x < 19 → 1 ≤ kwl x ∧ kwl x ≤ 8 := by decide +kernel
/-- the token is a certain word -/
def isK (T : Nat → Int32) (E p x : Nat) : Bool := decide (srt T E p = 1) && decide (wl T E p = kwl x) && !(ex (fun j => lt T p j != kwc x j) (kwl x))
def isNm (T : Nat → Int32) (E p : Nat) : Bool := decide (srt T E p = 1) && !isK T E p 0 && !isK T E p 1 && !isK T E p 2 && !isK T E p 4 && !isK T E p 3 && !isK T E p 5
theorem srt_let {T : Nat → Int32} {E p : Nat} (h : srt T E p = 1) : p < E ∧ isLet (T p) = true ∧ nxt T E p = rn isLet T E p ∧ wl T E p ≤ 8 ∧ 1 ≤ wl T E p ∧ ∀ k, k < wl T E p → lt T p k < 26 := by
  have h0 : ¬ E ≤ p := fun z => by rw [srt, if_pos z] at h; omega
  have hl : isLet (T p) = true := by
    cases e : isLet (T p) with
    | true => rfl
    | false =>
      rw [srt, if_neg h0, e] at h
      simp only [Bool.false_eq_true, if_false] at h
      repeat' split at h
      all_goals omega
  have en : nxt T E p = rn isLet T E p := by unfold nxt; rw [if_neg h0, hl]; rfl
  have h8 : wl T E p ≤ 8 := by
    rw [srt, if_neg h0, hl] at h
    simp only [if_true] at h
    split at h
    · assumption
    · omega
  refine ⟨by omega, hl, en, h8, ?_, fun k hk => ?_⟩
  · unfold wl
    rw [en, rn_yes (by omega) hl]
    have := rn_ge (P := isLet) (T := T) (E := E) (i := p + 1)
    omega
  · have := rn_all (P := isLet) (T := T) (E := E) (i := p) (k := p + k) (by omega) (by unfold wl at hk; rw [en] at hk; omega)
    exact (isLet_v this).2
theorem srt_dig {T : Nat → Int32} {E p : Nat} (h : srt T E p = 2) : p < E ∧ isLet (T p) = false ∧ isDig (T p) = true ∧ nxt T E p = rn isDig T E p ∧ wl T E p ≤ 3 := by
  have h0 : ¬ E ≤ p := fun z => by rw [srt, if_pos z] at h; omega
  have hl : isLet (T p) = false := by
    cases e : isLet (T p) with
    | false => rfl
    | true =>
      rw [srt, if_neg h0, e] at h
      simp only [if_true] at h
      split at h <;> omega
  have hd : isDig (T p) = true := by
    cases e : isDig (T p) with
    | true => rfl
    | false =>
      rw [srt, if_neg h0, hl, e] at h
      simp only [Bool.false_eq_true, if_false] at h
      repeat' split at h
      all_goals omega
  have en : nxt T E p = rn isDig T E p := by unfold nxt; rw [if_neg h0, hl, hd]; rfl
  refine ⟨by omega, hl, hd, en, ?_⟩
  rw [srt, if_neg h0, hl, hd] at h
  simp only [Bool.false_eq_true, if_false, if_true] at h
  split at h
  · assumption
  · omega
theorem nmv_lt {T : Nat → Int32} {E p : Nat} (h : srt T E p = 2) : nmv T E p < 1000 := by
  obtain ⟨-, -, -, en, h3⟩ := srt_dig h
  have hd : ∀ k, k < wl T E p → (T (p + k)).toNatClampNeg - 48 < 10 := fun k hk => by
    have := rn_all (P := isDig) (T := T) (E := E) (i := p) (k := p + k) (by omega) (by unfold wl at hk; rw [en] at hk; omega)
    exact (isDig_v this).2
  unfold nmv
  generalize wl T E p = l at *
  rcases l with _ | _ | _ | _ | l
  · simp [nv]
  · have h0 := hd 0 (by omega); simp only [nv]; omega
  · have h0 := hd 0 (by omega); have h1 := hd 1 (by omega); simp only [nv]; omega
  · have h0 := hd 0 (by omega); have h1 := hd 1 (by omega); have h2 := hd 2 (by omega); simp only [nv]; omega
  · omega
theorem nxt_le {T : Nat → Int32} {E p : Nat} (h : p ≤ E) : nxt T E p ≤ E := by
  unfold nxt
  split
  · omega
  · split
    · exact rn_le h
    · split
      · exact rn_le h
      · omega
theorem srt_5 {T : Nat → Int32} {E p : Nat} : srt T E p ≤ 5 := by
  unfold srt
  repeat' split
  all_goals omega
section
variable {sa : Nat → Nat} {d n t h m : Nat} {Q : mj_Q} {K : Nat → Nat × Nat} {FI : Nat → Nat → Int32} {FL : Nat → Nat → Int64} {FR : Nat → Nat → Option Nat} {AI : Nat → Nat → Int32} {AL : Nat → Nat → Int64} {AR : Nat → Nat → Option Nat} {w : Wl} {hs : Nat → Hg}
variable {tk ta : Nat}
theorem c_strlen {x : Nat} {μ : mj_M} (hx : x < 20) (hQ : Q (some (.int (nI (kwl x)))) μ) : EV sa (d + 9) 276 [.ref (sa x)] μ Q := Or.inl ⟨by omega, Or.inl ⟨rfl, x, hx, rfl, hQ⟩⟩
theorem c_strchar {x j : Nat} {μ : mj_M} (hx : x < 20) (hj : j < kwl x) (h20 : kwl x < 100) (hQ : Q (some (.int ((mj_sby.getD x []).getD j 0))) μ) : EV sa (d + 9) 277 [.ref (sa x), .int (nI j)] μ Q := by
  have hcl : (nI j).toNatClampNeg = j := nI_clamp (by omega)
  refine Or.inl ⟨by omega, Or.inr (Or.inl ⟨rfl, x, nI j, hx, rfl, vp_in_nI hj (Nat.lt_trans (show mj_sl.getD x 0 < 100 from h20) (by decide)), ?_⟩)⟩
  rw [hcl]
  exact hQ
theorem c_isThe (hS : TokS K FR tk ta) {T : Nat → Int32} {E p x : Nat} (hR : TokR FI FL tk T E p) (hE : E ≤ 900) (hx : x < 19) (hQ : Q (some (.int (bI (isK T E p x)))) (n, K, FI, FL, FR, AI, AL, AR)) : EV sa (d + 10) 79 [.ref tk, .ref (sa x)] (n, K, FI, FL, FR, AI, AL, AR) Q := by
  have k0 := hS.1
  obtain ⟨r1, hp, r2, r3, r4, r5, r6⟩ := hR
  obtain ⟨l1, l2⟩ := kwl_ok x hx
  have h5 := srt_5 (T := T) (E := E) (p := p)
  have hnx := nxt_le (T := T) hp
  have es1 : (nI (srt T E p) = 1) ↔ srt T E p = 1 := by rw [show (1 : Int32) = nI 1 from rfl, nI_eq (by omega) (by decide)]
  refine n79 k0 ?_
  simp only [e79_0, e79_1, e79_4, e79_5, e79_8, e79_9, e79_12, e79_13, e79_16, e79_19, e79_20, e79_21, e79_22, e79_24, e79_25, e79_28, e79_31, e79_32, e79_35, e79_36, e79_39, e79_40, e79_41, e79_44, e79_46, e79_47, e79_48, e79_49, e79_52, e79_53, e79_54, e79_57, e79_60, e79_61, k0, r3, es1, true_and, true_or]
  refine ⟨fun z => ?_, fun z => ⟨by simp, c_strlen (by omega) ?_⟩⟩
  · rw [show isK T E p x = false by simp [isK, z]] at hQ
    exact hQ
  have z' : srt T E p = 1 := by simpa using z
  obtain ⟨q1, q2⟩ := r5 z'
  obtain ⟨-, -, -, w8, w1, hlt⟩ := srt_let z'
  have el : (nI (wl T E p) = nI (kwl x)) ↔ wl T E p = kwl x := nI_eq (by omega) (by omega)
  simp only [tl_some, e79_0, e79_1, e79_4, e79_5, e79_8, e79_9, e79_12, e79_13, e79_16, e79_19, e79_20, e79_21, e79_22, e79_24, e79_25, e79_28, e79_31, e79_32, e79_35, e79_36, e79_39, e79_40, e79_41, e79_44, e79_46, e79_47, e79_48, e79_49, e79_52, e79_53, e79_54, e79_57, e79_60, e79_61, q1, el, true_and, true_or, mj_kl, mj_u]
  refine ⟨fun y => ?_, fun y => ?_⟩
  · rw [y] at q2 hlt
    have ek : isK T E p x = !(ex (fun j => lt T p j != kwc x j) (kwl x)) := by simp [isK, z', y]
    rw [ek] at hQ
    have loop : ∀ rr j, j + rr = kwl x → ex (fun j => lt T p j != kwc x j) j = false → WP sa (EV sa (d + 9)) 79 Q 0 0 23 [.ref tk, .ref (sa x), .int (nI j)] [] (n, K, FI, FL, FR, AI, AL, AR) := by
      intro rr
      induction rr with
      | zero =>
        intro j hj hn
        have hj' : j = kwl x := by omega
        subst hj'
        rw [e79_23]
        simp only [e79_0, e79_1, e79_4, e79_5, e79_8, e79_9, e79_12, e79_13, e79_16, e79_19, e79_20, e79_21, e79_22, e79_24, e79_25, e79_28, e79_31, e79_32, e79_35, e79_36, e79_39, e79_40, e79_41, e79_44, e79_46, e79_47, e79_48, e79_49, e79_52, e79_53, e79_54, e79_57, e79_60, e79_61]
        refine ⟨by simp, c_strlen (by omega) ?_⟩
        simp only [tl_some, e79_0, e79_1, e79_4, e79_5, e79_8, e79_9, e79_12, e79_13, e79_16, e79_19, e79_20, e79_21, e79_22, e79_24, e79_25, e79_28, e79_31, e79_32, e79_35, e79_36, e79_39, e79_40, e79_41, e79_44, e79_46, e79_47, e79_48, e79_49, e79_52, e79_53, e79_54, e79_57, e79_60, e79_61, or_true, true_and]
        rw [hn] at hQ
        exact ⟨fun _ => hQ, fun v => absurd (nI_le (Nat.le_refl _) (by omega)) v⟩
      | succ rr ih =>
        intro j hj hn
        obtain ⟨kv, kb⟩ := kw_ok x hx j (by omega)
        have hl := hlt j (by omega)
        rw [e79_23]
        simp only [e79_0, e79_1, e79_4, e79_5, e79_8, e79_9, e79_12, e79_13, e79_16, e79_19, e79_20, e79_21, e79_22, e79_24, e79_25, e79_28, e79_31, e79_32, e79_35, e79_36, e79_39, e79_40, e79_41, e79_44, e79_46, e79_47, e79_48, e79_49, e79_52, e79_53, e79_54, e79_57, e79_60, e79_61]
        refine ⟨by simp, c_strlen (by omega) ?_⟩
        simp only [tl_some, e79_0, e79_1, e79_4, e79_5, e79_8, e79_9, e79_12, e79_13, e79_16, e79_19, e79_20, e79_21, e79_22, e79_24, e79_25, e79_28, e79_31, e79_32, e79_35, e79_36, e79_39, e79_40, e79_41, e79_44, e79_46, e79_47, e79_48, e79_49, e79_52, e79_53, e79_54, e79_57, e79_60, e79_61, k0, true_and]
        refine ⟨fun v => absurd v (nI_ge (by omega) (by omega)), fun _ => ⟨by simp, c_codeIn q2 (fun i => ?_) (by omega) ?_⟩⟩
        · split
          · next v => have := hlt i v; omega
          · omega
        simp only [tl_some, e79_0, e79_1, e79_4, e79_5, e79_8, e79_9, e79_12, e79_13, e79_16, e79_19, e79_20, e79_21, e79_22, e79_24, e79_25, e79_28, e79_31, e79_32, e79_35, e79_36, e79_39, e79_40, e79_41, e79_44, e79_46, e79_47, e79_48, e79_49, e79_52, e79_53, e79_54, e79_57, e79_60, e79_61]
        refine ⟨by simp, c_strchar (by omega) (by omega) (by omega) ?_⟩
        have hjl : j < kwl x := by omega
        simp only [tl_some, e79_0, e79_1, e79_4, e79_5, e79_8, e79_9, e79_12, e79_13, e79_16, e79_19, e79_20, e79_21, e79_22, e79_24, e79_25, e79_28, e79_31, e79_32, e79_35, e79_36, e79_39, e79_40, e79_41, e79_44, e79_46, e79_47, e79_48, e79_49, e79_52, e79_53, e79_54, e79_57, e79_60, e79_61, kv, if_pos hjl, nI_1, true_or, true_and, mj_kl]
        have ev : (nI (lt T p j + 1) = nI (kwc x j + 1)) ↔ lt T p j = kwc x j := by rw [nI_eq (by omega) (by omega)]; omega
        rw [ev]
        refine ⟨fun v => ih (j + 1) (by omega) (by simp only [ex, hn, v]; simp), fun v => ?_⟩
        have : ex (fun j => lt T p j != kwc x j) (kwl x) = true := ex_true.mpr ⟨j, by omega, by simpa using v⟩
        rw [this] at hQ
        exact hQ
    have := loop (kwl x) 0 (by omega) rfl
    simpa [nI_0] using this
  · rw [show isK T E p x = false by simp [isK, z', y]] at hQ
    exact hQ
theorem c_isName (hS : TokS K FR tk ta) {T : Nat → Int32} {E p : Nat} (hR : TokR FI FL tk T E p) (hE : E ≤ 900) (hQ : Q (some (.int (bI (isNm T E p)))) (n, K, FI, FL, FR, AI, AL, AR)) : EV sa (d + 11) 80 [.ref tk] (n, K, FI, FL, FR, AI, AL, AR) Q := by
  have k0 := hS.1
  have r3 := hR.2.2.2.1
  have h5 := srt_5 (T := T) (E := E) (p := p)
  have es1 : (nI (srt T E p) = 1) ↔ srt T E p = 1 := by rw [show (1 : Int32) = nI 1 from rfl, nI_eq (by omega) (by decide)]
  have no : isNm T E p = false → Q (some (.int 0)) (n, K, FI, FL, FR, AI, AL, AR) := fun e => by rw [e] at hQ; exact hQ
  refine n80 k0 ?_
  simp only [e80_0, e80_1, e80_4, e80_5, e80_8, e80_9, e80_11, e80_14, e80_17, e80_18, e80_20, e80_23, e80_26, e80_27, e80_29, e80_32, e80_35, e80_36, e80_38, e80_41, e80_44, e80_45, e80_47, e80_50, e80_53, e80_54, e80_56, e80_59, e80_62, e80_63, e80_66, e80_67, k0, r3, es1, true_and, true_or]
  refine ⟨fun z => no (by simp [isNm, z]), fun z => ⟨by simp, c_isThe hS hR hE (by decide) ?_⟩⟩
  have z' : srt T E p = 1 := by simpa using z
  simp only [tl_some, e80_0, e80_1, e80_4, e80_5, e80_8, e80_9, e80_11, e80_14, e80_17, e80_18, e80_20, e80_23, e80_26, e80_27, e80_29, e80_32, e80_35, e80_36, e80_38, e80_41, e80_44, e80_45, e80_47, e80_50, e80_53, e80_54, e80_56, e80_59, e80_62, e80_63, e80_66, e80_67, bI_eq0, true_or, true_and]
  refine ⟨fun y => no (by simp [isNm, show isK T E p 0 = true by simpa using y]), fun y0 => ⟨by simp, c_isThe hS hR hE (by decide) ?_⟩⟩
  simp only [tl_some, e80_0, e80_1, e80_4, e80_5, e80_8, e80_9, e80_11, e80_14, e80_17, e80_18, e80_20, e80_23, e80_26, e80_27, e80_29, e80_32, e80_35, e80_36, e80_38, e80_41, e80_44, e80_45, e80_47, e80_50, e80_53, e80_54, e80_56, e80_59, e80_62, e80_63, e80_66, e80_67, bI_eq0, true_or, true_and]
  refine ⟨fun y => no (by simp [isNm, show isK T E p 1 = true by simpa using y]), fun y1 => ⟨by simp, c_isThe hS hR hE (by decide) ?_⟩⟩
  simp only [tl_some, e80_0, e80_1, e80_4, e80_5, e80_8, e80_9, e80_11, e80_14, e80_17, e80_18, e80_20, e80_23, e80_26, e80_27, e80_29, e80_32, e80_35, e80_36, e80_38, e80_41, e80_44, e80_45, e80_47, e80_50, e80_53, e80_54, e80_56, e80_59, e80_62, e80_63, e80_66, e80_67, bI_eq0, true_or, true_and]
  refine ⟨fun y => no (by simp [isNm, show isK T E p 2 = true by simpa using y]), fun y2 => ⟨by simp, c_isThe hS hR hE (by decide) ?_⟩⟩
  simp only [tl_some, e80_0, e80_1, e80_4, e80_5, e80_8, e80_9, e80_11, e80_14, e80_17, e80_18, e80_20, e80_23, e80_26, e80_27, e80_29, e80_32, e80_35, e80_36, e80_38, e80_41, e80_44, e80_45, e80_47, e80_50, e80_53, e80_54, e80_56, e80_59, e80_62, e80_63, e80_66, e80_67, bI_eq0, true_or, true_and]
  refine ⟨fun y => no (by simp [isNm, show isK T E p 4 = true by simpa using y]), fun y4 => ⟨by simp, c_isThe hS hR hE (by decide) ?_⟩⟩
  simp only [tl_some, e80_0, e80_1, e80_4, e80_5, e80_8, e80_9, e80_11, e80_14, e80_17, e80_18, e80_20, e80_23, e80_26, e80_27, e80_29, e80_32, e80_35, e80_36, e80_38, e80_41, e80_44, e80_45, e80_47, e80_50, e80_53, e80_54, e80_56, e80_59, e80_62, e80_63, e80_66, e80_67, bI_eq0, true_or, true_and]
  refine ⟨fun y => no (by simp [isNm, show isK T E p 3 = true by simpa using y]), fun y3 => ⟨by simp, c_isThe hS hR hE (by decide) ?_⟩⟩
  simp only [tl_some, e80_0, e80_1, e80_4, e80_5, e80_8, e80_9, e80_11, e80_14, e80_17, e80_18, e80_20, e80_23, e80_26, e80_27, e80_29, e80_32, e80_35, e80_36, e80_38, e80_41, e80_44, e80_45, e80_47, e80_50, e80_53, e80_54, e80_56, e80_59, e80_62, e80_63, e80_66, e80_67, bI_eq0, true_or, or_true, true_and]
  refine ⟨fun y => no (by simp [isNm, show isK T E p 5 = true by simpa using y]), fun y5 => ?_⟩
  have e : isNm T E p = true := by
    simp only [isNm, z', Bool.and_eq_true, Bool.not_eq_true', decide_true, true_and]
    simp only [Decidable.not_not] at y0 y1 y2 y3 y4 y5
    exact ⟨⟨⟨⟨⟨y0, y1⟩, y2⟩, y4⟩, y3⟩, y5⟩
  rw [e] at hQ
  exact hQ
theorem c_start (hk : K tk = (1, 5)) (hta : K ta = (3, 900)) {E : Nat} (hE : E ≤ 900) (hQ : ∀ (FI' : Nat → Nat → Int32) (FL' : Nat → Nat → Int64), TokR FI' FL' tk (AI ta) E (rn isSp (AI ta) E 0) → FIx FI FI' tk [321, 322, 323, 324, 325, 327] → FLx FL FL' tk [326] → Q none (n, K, FI', FL', mj_u2 FR 320 tk (some ta), AI, AL, AR)) : EV sa (d + 4) 72 [.ref tk, .ref ta, .int (nI E)] (n, K, FI, FL, FR, AI, AL, AR) Q := by
  have hS : TokS K (mj_u2 FR 320 tk (some ta)) tk ta := ⟨hk, mj_u2_s, hta⟩
  have isA : mj_isA 3 := Or.inr (Or.inl rfl)
  have em : (if nI 900 < nI E then nI 900 else nI E) = nI E := if_neg (nI_nlt hE (by decide))
  refine n72 hk ?_
  simp only [e72_0, e72_1, e72_2, e72_5, e72_6, e72_7, e72_8, e72_9, e72_12, e72_15, e72_16, e72_17, e72_20, e72_21, e72_24, hk, hta, isA, nI_ofNat, em, true_and, List.length_nil, List.length_cons, Nat.reduceAdd, Nat.reduceLeDiff]
  refine c_step hS hE (Nat.zero_le _) (by rw [mj_u2_1 (by decide), mj_u2_s]) (by rw [mj_u2_s]; rfl) fun F' G' a1 a2 a3 => ?_
  simp only [tl_none, e72_0, e72_1, e72_2, e72_5, e72_6, e72_7, e72_8, e72_9, e72_12, e72_15, e72_16, e72_17, e72_20, e72_21, e72_24]
  exact hQ F' G' a1 (((FIx_u2 (by simp)).same (FIx_u2 (by simp))).same (a2.sub (by simp))) a3
end
