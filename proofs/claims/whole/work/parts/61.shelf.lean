abbrev StK : Type := (Nat → Hg) × Nat × (Nat → Int32) × (Nat → Int32)
def KptE (A : Nat → Int32) (w : Wl) (e : StK) : Prop := KeptR A w e.1 e.2.1 e.2.2.1 e.2.2.2
/-- where a Shelf has its rows -/
def ShelfS (K : Nat → Nat × Nat) (FR AR : Nat → Nat → Option Nat) (s e : Nat) (g : Nat → Nat) (R : Nat) : Prop := K s = (1, 3) ∧ FR 192 s = some e ∧ K e = (5, R) ∧ 0 < R ∧ R ≤ 12 ∧ (∀ i, i < R → AR e i = some (g i) ∧ K (g i) = (2, 37)) ∧ ∀ i j, i < R → j < R → g i = g j → i = j
def ShelfR (FI AI : Nat → Nat → Int32) (s : Nat) (g : Nat → Nat) (R : Nat) (w : Wl) (E : Nat → StK) (cnt : Nat) : Prop := cnt ≤ R ∧ FI 194 s = nI cnt ∧ ∃ old, old < R ∧ FI 193 s = nI old ∧ ∀ i, i < cnt → KptE (AI (g ((old + i) % R))) w (E i)
/-- one more is kept -/
def pushE (E : Nat → StK) (cnt R : Nat) (e : StK) : (Nat → StK) × Nat := if cnt < R then (upN E cnt e, cnt + 1) else (fun i => if i = R - 1 then e else E (i + 1), cnt)
theorem nI_ofNat (k : Nat) : Int32.ofNat k = nI k := rfl
theorem mod_ne {old i j R : Nat} (hi : i < R) (hj : j < R) (h : i ≠ j) : (old + i) % R ≠ (old + j) % R := fun e => by
  have h1 := Nat.div_add_mod (old + i) R
  have h2 := Nat.div_add_mod (old + j) R
  rw [e] at h1
  rcases Nat.lt_trichotomy ((old + i) / R) ((old + j) / R) with z | z | z
  · have : R * ((old + i) / R + 1) ≤ R * ((old + j) / R) := Nat.mul_le_mul_left _ z
    rw [Nat.mul_add] at this
    omega
  · rw [z] at h1; omega
  · have : R * ((old + j) / R + 1) ≤ R * ((old + i) / R) := Nat.mul_le_mul_left _ z
    rw [Nat.mul_add] at this
    omega
section
variable {sa : Nat → Nat} {d n t h m : Nat} {Q : mj_Q} {K : Nat → Nat × Nat} {FI : Nat → Nat → Int32} {FL : Nat → Nat → Int64} {FR : Nat → Nat → Option Nat} {AI : Nat → Nat → Int32} {AL : Nat → Nat → Int64} {AR : Nat → Nat → Option Nat} {w : Wl} {hs : Nat → Hg}
variable {s e R : Nat} {g : Nat → Nat} {E : Nat → StK} {cnt : Nat}
theorem c_forgetAll (hS : ShelfS K FR AR s e g R) (hQ : ∀ FI' : Nat → Nat → Int32, (∀ AI w E, ShelfR FI' AI s g R w E 0) → FIx FI FI' s [193, 194] → Q none (n, K, FI', FL, FR, AI, AL, AR)) : EV sa (d + 1) 46 [.ref s] (n, K, FI, FL, FR, AI, AL, AR) Q := by
  have k0 := hS.1
  refine n46 k0 ?_
  simp only [e46_0, e46_1, e46_2, e46_5, e46_6, e46_7, e46_10, k0, true_and]
  refine hQ _ (fun AI w E => ⟨Nat.zero_le _, mj_u2_s, 0, hS.2.2.2.1, ?_, fun i hi => absurd hi (Nat.not_lt_zero i)⟩) ?_
  · rw [mj_u2_1 (by decide), mj_u2_s]; rfl
  · intro f a hfa
    simp at hfa
    simp only [mj_u2]
    repeat' split
    all_goals first | rfl | (rename_i z; obtain ⟨rfl, rfl⟩ := z; simp at hfa)
theorem c_slot (hS : ShelfS K FR AR s e g R) {old i : Nat} (ho : FI 193 s = nI old) (h1 : old < R) (hi : i < R) (hQ : Q (some (.int (nI ((old + i) % R)))) (n, K, FI, FL, FR, AI, AL, AR)) : EV sa (d + 1) 50 [.ref s, .int (nI i)] (n, K, FI, FL, FR, AI, AL, AR) Q := by
  obtain ⟨k0, f0, ke, hR0, hR, -⟩ := hS
  have isA : mj_isA 5 := Or.inr (Or.inr (Or.inr (Or.inl rfl)))
  refine n50 k0 ?_
  simp only [e50_0, e50_1, e50_4, e50_5, e50_6, e50_7, e50_8, e50_9, e50_12, e50_13, e50_16, e50_17, e50_20, e50_21, e50_22, e50_25, e50_26, e50_27, k0, f0, ke, rf_some, ho, nI_add, nI_ofNat, isA, true_and, mj_kl]
  by_cases y : R ≤ old + i
  · have em : (old + i) % R = old + i - R := by rw [Nat.mod_eq_sub_mod y, Nat.mod_eq_of_lt (by omega)]
    rw [em] at hQ
    refine ⟨fun _ => ?_, fun z => absurd (nI_le y (by omega)) z⟩
    rw [nq_sub y]
    exact hQ
  · rw [Nat.mod_eq_of_lt (by omega)] at hQ
    exact ⟨fun z => absurd z (nI_ge (by omega) (by omega)), fun _ => hQ⟩
theorem c_keep (hS : ShelfS K FR AR s e g R) (hR : ShelfR FI AI s g R w E cnt) (hsh : s ≠ h) (hH : HungS K FR h) (hHR : HungR FI AI h w hs m) {sh pd : Nat → Int32} (hSP : SP AI h sh pd) (hby : ∀ k, k < m → byOK (gR (hs k))) (hsep : ∀ i, i < R → g i < h + 15 ∨ h + 22 < g i) (hQ : ∀ FI' AI' : Nat → Nat → Int32, ShelfR FI' AI' s g R w (pushE E cnt R (hs, m, sh, pd)).1 (pushE E cnt R (hs, m, sh, pd)).2 → FIx FI FI' s [193, 194] → (∀ a, (∀ i, i < R → a ≠ g i) → AI' a = AI a) → Q none (n, K, FI', FL, FR, AI', AL, AR)) : EV sa (d + 2) 47 [.ref s, .ref h] (n, K, FI, FL, FR, AI, AL, AR) Q := by
  obtain ⟨hc, r194, old, ho, r193, hE⟩ := hR
  obtain ⟨k0, f0, ke, hR0, hR12, hg, hinj⟩ := id hS
  have isA : mj_isA 5 := Or.inr (Or.inr (Or.inr (Or.inl rfl)))
  refine n47 k0 ?_
  simp only [e47_0, e47_1, e47_4, e47_5, e47_8, e47_9, e47_12, e47_13, e47_13i, e47_14, e47_17, e47_18, e47_19, e47_22, e47_25, e47_26, e47_27, e47_30, e47_31, e47_32, e47_33, e47_36, e47_37, e47_40, e47_41, e47_44, e47_45, e47_46, e47_49, e47_50, e47_53, e47_54, e47_55, e47_58, e47_59, e47_60, e47_63, e47_64, e47_65, e47_68, e47_69, e47_72, k0, f0, ke, rf_some, r194, r193, nI_ofNat, isA, true_and, mj_kl, nI_1]
  by_cases y : cnt < R
  · refine ⟨fun z => absurd z (nI_ge y (by omega)), fun _ => ⟨by simp, ?_⟩⟩
    have u194 : mj_u2 FI 194 s (nI (cnt + 1)) 194 s = nI (cnt + 1) := mj_u2_s
    have u193 : mj_u2 FI 194 s (nI (cnt + 1)) 193 s = nI old := by rw [mj_u2_1 (by decide)]; exact r193
    simp only [u194, nI_pred]
    refine c_slot hS u193 ho y ?_
    have hmod : (old + cnt) % R < R := Nat.mod_lt _ hR0
    have hin : vp_in (nI ((old + cnt) % R)) R := vp_in_nI hmod (by omega)
    have hcl : (nI ((old + cnt) % R)).toNatClampNeg = (old + cnt) % R := nI_clamp (by omega)
    obtain ⟨g1, g2⟩ := hg _ hmod
    simp only [tl_some, e47_0, e47_1, e47_4, e47_5, e47_8, e47_9, e47_12, e47_13, e47_13i, e47_14, e47_17, e47_18, e47_19, e47_22, e47_25, e47_26, e47_27, e47_30, e47_31, e47_32, e47_33, e47_36, e47_37, e47_40, e47_41, e47_44, e47_45, e47_46, e47_49, e47_50, e47_53, e47_54, e47_55, e47_58, e47_59, e47_60, e47_63, e47_64, e47_65, e47_68, e47_69, e47_72, ke, hin, hcl, g1, rf_some, true_and]
    have hHR' : HungR (mj_u2 FI 194 s (nI (cnt + 1))) AI h w hs m := by
      obtain ⟨q1, q2, q3, q4, q5⟩ := hHR
      exact ⟨by rw [mj_u2_1 (by decide)]; exact q1, q2, by rw [mj_u2_1 (by decide)]; exact q3, by rw [mj_u2_1 (by decide)]; exact q4, q5⟩
    refine ⟨by simp, c_writeTo hH hHR' hSP hby g2 (hsep _ hmod) fun A' a1 a2 => ?_⟩
    simp only [tl_none, e47_0, e47_1, e47_4, e47_5, e47_8, e47_9, e47_12, e47_13, e47_13i, e47_14, e47_17, e47_18, e47_19, e47_22, e47_25, e47_26, e47_27, e47_30, e47_31, e47_32, e47_33, e47_36, e47_37, e47_40, e47_41, e47_44, e47_45, e47_46, e47_49, e47_50, e47_53, e47_54, e47_55, e47_58, e47_59, e47_60, e47_63, e47_64, e47_65, e47_68, e47_69, e47_72]
    have ep : pushE E cnt R (hs, m, sh, pd) = (upN E cnt (hs, m, sh, pd), cnt + 1) := by simp [pushE, y]
    rw [ep] at hQ
    refine hQ _ A' ⟨by omega, u194, old, ho, u193, fun i hi => ?_⟩ ?_ ?_
    · by_cases q : i = cnt
      · subst q
        simp only [upN_s]
        exact a1
      · simp only [upN_o q]
        have hne : g ((old + i) % R) ≠ g ((old + cnt) % R) := fun z => mod_ne (by omega) y q (hinj _ _ (Nat.mod_lt _ hR0) hmod z)
        rw [a2 _ (by omega)]
        exact hE i (by omega)
    · intro f a hfa
      refine if_neg fun z => ?_
      obtain ⟨rfl, rfl⟩ := z
      simp at hfa
    · intro a ha
      have := ha _ hmod
      exact a2 a (by omega)
  · have hcR : cnt = R := by omega
    have nold : (old + 1) % R = if old + 1 < R then old + 1 else 0 := by
      split
      · next z => exact Nat.mod_eq_of_lt z
      · next z => rw [show old + 1 = R by omega, Nat.mod_self]
    have main : ∀ x : Int32, x = nI ((old + 1) % R) → EV sa (d + 1) 50 [.ref s, .int (nI cnt - 1)] (n, K, mj_u2 FI 193 s x, FL, FR, AI, AL, AR) (fun v μ => WP sa (EV sa (d + 1)) 47 Q 0 0 68 [.ref s, .ref h] (v.toList ++ [.ref e, .ref h]) μ) := by
      intro x hx
      subst hx
      have hmod1 : (old + 1) % R < R := Nat.mod_lt _ hR0
      obtain ⟨c', hc'⟩ : ∃ c', cnt = c' + 1 := ⟨cnt - 1, by omega⟩
      rw [hc', nI_pred]
      refine c_slot hS mj_u2_s hmod1 (by omega) ?_
      have es : ((old + 1) % R + c') % R = old := by
        rw [Nat.mod_add_mod, show old + 1 + c' = old + R by omega, Nat.add_mod_right, Nat.mod_eq_of_lt ho]
      rw [es]
      have hin : vp_in (nI old) R := vp_in_nI ho (by omega)
      have hcl : (nI old).toNatClampNeg = old := nI_clamp (by omega)
      obtain ⟨g1, g2⟩ := hg _ ho
      simp only [tl_some, e47_0, e47_1, e47_4, e47_5, e47_8, e47_9, e47_12, e47_13, e47_13i, e47_14, e47_17, e47_18, e47_19, e47_22, e47_25, e47_26, e47_27, e47_30, e47_31, e47_32, e47_33, e47_36, e47_37, e47_40, e47_41, e47_44, e47_45, e47_46, e47_49, e47_50, e47_53, e47_54, e47_55, e47_58, e47_59, e47_60, e47_63, e47_64, e47_65, e47_68, e47_69, e47_72, ke, hin, hcl, g1, rf_some, true_and]
      have hHR' : HungR (mj_u2 FI 193 s (nI ((old + 1) % R))) AI h w hs m := by
        obtain ⟨q1, q2, q3, q4, q5⟩ := hHR
        exact ⟨by rw [mj_u2_1 (by decide)]; exact q1, q2, by rw [mj_u2_1 (by decide)]; exact q3, by rw [mj_u2_1 (by decide)]; exact q4, q5⟩
      refine ⟨by simp, c_writeTo hH hHR' hSP hby g2 (hsep _ ho) fun A' a1 a2 => ?_⟩
      simp only [tl_none, e47_0, e47_1, e47_4, e47_5, e47_8, e47_9, e47_12, e47_13, e47_13i, e47_14, e47_17, e47_18, e47_19, e47_22, e47_25, e47_26, e47_27, e47_30, e47_31, e47_32, e47_33, e47_36, e47_37, e47_40, e47_41, e47_44, e47_45, e47_46, e47_49, e47_50, e47_53, e47_54, e47_55, e47_58, e47_59, e47_60, e47_63, e47_64, e47_65, e47_68, e47_69, e47_72]
      have ep : pushE E cnt R (hs, m, sh, pd) = (fun i => if i = R - 1 then (hs, m, sh, pd) else E (i + 1), cnt) := by simp [pushE, y]
      rw [ep] at hQ
      refine hQ _ A' ⟨by omega, by rw [mj_u2_1 (by decide)]; exact r194, (old + 1) % R, hmod1, mj_u2_s, fun i hi => ?_⟩ ?_ ?_
      · have hi' : i < R := by omega
        simp only []
        by_cases q : i = R - 1
        · rw [if_pos q, show ((old + 1) % R + i) % R = old by rw [show i = c' by omega]; exact es]
          exact a1
        · rw [if_neg q]
          have ei : ((old + 1) % R + i) % R = (old + (i + 1)) % R := by rw [Nat.mod_add_mod]; congr 1; omega
          have hne : (old + (i + 1)) % R ≠ old := fun z => by
            have := mod_ne (old := old) (i := i + 1) (j := 0) (R := R) (by omega) hR0 (by omega)
            rw [show (old + 0) % R = old from Nat.mod_eq_of_lt ho] at this
            exact this z
          have hne2 : g ((old + (i + 1)) % R) ≠ g old := fun z => hne (hinj _ _ (Nat.mod_lt _ hR0) ho z)
          rw [ei, a2 _ (by omega)]
          exact hE (i + 1) (by omega)
      · intro f a hfa
        refine if_neg fun z => ?_
        obtain ⟨rfl, rfl⟩ := z
        simp at hfa
      · intro a ha
        have := ha _ ho
        exact a2 a (by omega)
    have u194 : ∀ x : Int32, mj_u2 FI 193 s x 194 s = nI cnt := fun x => by rw [mj_u2_1 (by decide)]; exact r194
    simp only [u194]
    refine ⟨fun _ => ⟨fun z => ⟨by simp, main _ ?_⟩, fun z => ⟨by simp, main _ ?_⟩⟩, fun z => absurd (nI_le (by omega) (by omega)) z⟩
    · have : ¬ old + 1 < R := fun q => absurd z (nI_ge q (by omega))
      rw [nold, if_neg this]; rfl
    · have : old + 1 < R := by
        rcases Nat.lt_or_ge (old + 1) R with q | q
        · exact q
        · exact absurd (nI_le q (by omega)) z
      rw [nold, if_pos this]
theorem c_bring_no (hS : ShelfS K FR AR s e g R) (hc : FI 194 s = nI cnt) {num : Int32} (hn : num < 0 ∨ nI cnt ≤ num) (hQ : Q (some (.int 0)) (n, K, FI, FL, FR, AI, AL, AR)) : EV sa (d + 1) 49 [.ref s, .int num, .ref h] (n, K, FI, FL, FR, AI, AL, AR) Q := by
  have k0 := hS.1
  refine n49 k0 ?_
  simp only [e49_0, e49_1, e49_4, e49_5, e49_6, e49_9, e49_12, e49_13, e49_14, e49_15, e49_16, e49_19, e49_20, e49_21, e49_24, e49_25, e49_28, e49_29, k0, hc, true_and, true_or]
  refine ⟨fun _ => hQ, fun z => ⟨fun z2 => ?_, fun _ => hQ⟩⟩
  rcases hn with q | q
  · exact absurd q z
  · exact absurd z2 (Int32.not_lt.mpr q)
theorem c_bring (hS : ShelfS K FR AR s e g R) (hR : ShelfR FI AI s g R w E cnt) {i : Nat} (hi : i < cnt) (hH : HungS K FR h) (hT : ToldS K FR t) (ht : FR 0 h = some t) (hw : wOK w) (hTR : ToldR FI AI AL t w) (hF : FI 2 h = nI (wF w)) (sep : t + 13 < h + 15 ∨ h + 22 < t) (hsep : ∀ i, i < R → g i < h + 15 ∨ h + 22 < g i) (hQ : ∀ FI' AI' : Nat → Nat → Int32, HC K FR FI' AI' AL h t w (E i).1 (E i).2.1 → SP AI' h (E i).2.2.1 (E i).2.2.2 → FIx FI FI' h [1, 3, 12] → AIx AI AI' (h + 15) (h + 21) → Q (some (.int 1)) (n, K, FI', FL, FR, AI', AL, AR)) : EV sa (d + 3) 49 [.ref s, .int (nI i), .ref h] (n, K, FI, FL, FR, AI, AL, AR) Q := by
  obtain ⟨hc, r194, old, ho, r193, hE⟩ := hR
  obtain ⟨k0, f0, ke, hR0, hR12, hg, hinj⟩ := id hS
  have hmod : (old + i) % R < R := Nat.mod_lt _ hR0
  have hin : vp_in (nI ((old + i) % R)) R := vp_in_nI hmod (by omega)
  have hcl : (nI ((old + i) % R)).toNatClampNeg = (old + i) % R := nI_clamp (by omega)
  obtain ⟨g1, g2⟩ := hg _ hmod
  refine n49 k0 ?_
  simp only [e49_0, e49_1, e49_4, e49_5, e49_6, e49_9, e49_12, e49_13, e49_14, e49_15, e49_16, e49_19, e49_20, e49_21, e49_24, e49_25, e49_28, e49_29, k0, f0, rf_some, r194, true_and, true_or]
  refine ⟨fun z => absurd z (nI_pos (by omega)), fun _ => ⟨fun _ => ⟨by simp, c_slot hS r193 ho (by omega) ?_⟩, fun z => absurd (nI_lt hi (by omega)) z⟩⟩
  simp only [tl_some, e49_0, e49_1, e49_4, e49_5, e49_6, e49_9, e49_12, e49_13, e49_14, e49_15, e49_16, e49_19, e49_20, e49_21, e49_24, e49_25, e49_28, e49_29, ke, hin, hcl, g1, rf_some, true_and]
  refine ⟨by simp, c_readFrom hH hT ht hw hTR hF sep g2 (hsep _ hmod) (hE i hi) fun F' A' a1 a2 a3 a4 => ?_⟩
  simp only [tl_none, e49_0, e49_1, e49_4, e49_5, e49_6, e49_9, e49_12, e49_13, e49_14, e49_15, e49_16, e49_19, e49_20, e49_21, e49_24, e49_25, e49_28, e49_29, true_or, or_true, true_and]
  exact hQ F' A' a1 a2 a3 a4
theorem c_takeLatest_no (hS : ShelfS K FR AR s e g R) (hc : FI 194 s = nI 0) (hQ : Q (some (.int 0)) (n, K, FI, FL, FR, AI, AL, AR)) : EV sa (d + 2) 48 [.ref s, .ref h] (n, K, FI, FL, FR, AI, AL, AR) Q := by
  have k0 := hS.1
  refine n48 k0 ?_
  simp only [e48_0, e48_1, e48_2, e48_5, e48_6, e48_7, e48_8, e48_11, e48_14, e48_15, e48_16, e48_17, e48_17i, e48_18, e48_21, e48_22, e48_23, e48_26, e48_27, k0, hc, true_and]
  refine ⟨by simp, c_bring_no hS hc (Or.inl (by decide)) ?_⟩
  simp only [tl_some, e48_0, e48_1, e48_2, e48_5, e48_6, e48_7, e48_8, e48_11, e48_14, e48_15, e48_16, e48_17, e48_17i, e48_18, e48_21, e48_22, e48_23, e48_26, e48_27, true_or, true_and]
  exact ⟨fun z => absurd trivial z, fun _ => hQ⟩
theorem c_takeLatest (hS : ShelfS K FR AR s e g R) (hR : ShelfR FI AI s g R w E (cnt + 1)) (hsh : s ≠ h) (hH : HungS K FR h) (hT : ToldS K FR t) (hst : s ≠ t) (ht : FR 0 h = some t) (hw : wOK w) (hTR : ToldR FI AI AL t w) (hF : FI 2 h = nI (wF w)) (sep : t + 13 < h + 15 ∨ h + 22 < t) (hsep : ∀ i, i < R → g i < h + 15 ∨ h + 22 < g i) (hQ : ∀ FI' AI' : Nat → Nat → Int32, HC K FR FI' AI' AL h t w (E cnt).1 (E cnt).2.1 → SP AI' h (E cnt).2.2.1 (E cnt).2.2.2 → ShelfR FI' AI' s g R w E cnt → (∀ f a, a ≠ h → (a ≠ s ∨ f ≠ 194) → FI' f a = FI f a) → AIx AI AI' (h + 15) (h + 21) → Q (some (.int 1)) (n, K, FI', FL, FR, AI', AL, AR)) : EV sa (d + 4) 48 [.ref s, .ref h] (n, K, FI, FL, FR, AI, AL, AR) Q := by
  have k0 := hS.1
  have r194 := hR.2.1
  refine n48 k0 ?_
  simp only [e48_0, e48_1, e48_2, e48_5, e48_6, e48_7, e48_8, e48_11, e48_14, e48_15, e48_16, e48_17, e48_17i, e48_18, e48_21, e48_22, e48_23, e48_26, e48_27, k0, r194, true_and, nI_pred]
  refine ⟨by simp, c_bring hS hR (Nat.lt_succ_self _) hH hT ht hw hTR hF sep hsep fun F' A' a1 a2 a3 a4 => ?_⟩
  have q194 : F' 194 s = nI (cnt + 1) := by rw [a3 194 s (Or.inl hsh)]; exact r194
  simp only [tl_some, e48_0, e48_1, e48_2, e48_5, e48_6, e48_7, e48_8, e48_11, e48_14, e48_15, e48_16, e48_17, e48_17i, e48_18, e48_21, e48_22, e48_23, e48_26, e48_27, k0, q194, true_and, nI_pred, or_true]
  refine ⟨fun _ => ?_, fun z => absurd (by decide) z⟩
  have eF : ∀ a, a ≠ s → ∀ f, mj_u2 F' 194 s (nI cnt) f a = F' f a := fun a ha f => by
    simp only [mj_u2]
    rw [if_neg (fun z => ha z.2)]
  obtain ⟨hc, -, old, ho, r193, hE⟩ := hR
  refine hQ _ A' (a1.fx (eF h (fun z => hsh z.symm)) (eF t (fun z => hst z.symm))) a2 ⟨by omega, mj_u2_s, old, ho, ?_, fun i hi => ?_⟩ ?_ a4
  · rw [mj_u2_1 (by decide), a3 193 s (Or.inl hsh)]; exact r193
  · rw [a4 _ (by have := hsep _ (Nat.mod_lt (old + i) hS.2.2.2.1); omega)]
    exact hE i (by omega)
  · intro f a h1 h2
    simp only [mj_u2]
    rw [if_neg (by omega), a3 f a (Or.inl h1)]
end
