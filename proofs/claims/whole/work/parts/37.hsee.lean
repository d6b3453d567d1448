theorem Mk_one {i : Nat} (hi : i < 32) : Mk ((1 : Int32) <<< (nI i &&& 31)) (fun k => decide (k = i)) := by
  intro k hk
  rw [b_shl i hi 1 hk]
  by_cases q : k = i
  · subst q
    simp
    decide
  · simp [q]
    intro h1
    have h2 : 1 ≤ k - i := by omega
    generalize k - i = j at h2
    unfold bt
    have h3 : (1 : Int32).toBitVec = 1#32 := rfl
    rw [h3]
    simp
    omega
/-- a cell of one is a cell of the other -/
def tch (w : Wl) (hs : Nat → Hg) (i j : Nat) : Bool := ex (fun c => covg w (hs i) c && covg w (hs j) c) 32
/-- by no cell is it seen -/
def unseen (w : Wl) (hs : Nat → Hg) (m k : Nat) : Bool := !(ex (fun c => tp w hs m c == some k) 32)
section
variable {sa : Nat → Nat} {d n t h m : Nat} {Q : mj_Q} {K : Nat → Nat × Nat} {FI : Nat → Nat → Int32} {FL : Nat → Nat → Int64} {FR : Nat → Nat → Option Nat} {AI : Nat → Nat → Int32} {AL : Nat → Nat → Int64} {AR : Nat → Nat → Option Nat} {w : Wl} {hs : Nat → Hg}
theorem c_seenOf (hH : HungS K FR h) (hR : HungR FI AI h w hs m) {r : Int32} (hQ : ∀ v : Int32, Mk v (fun c => ex (fun k => decide (gR (hs k) = r) && (tp w hs m c == some k)) m) → Q (some (.int v)) (n, K, FI, FL, FR, AI, AL, AR)) : EV sa (d + 1) 13 [.ref h, .int r] (n, K, FI, FL, FR, AI, AL, AR) Q := by
  obtain ⟨k0, -, -, ⟨f6, k17⟩, -, ⟨f8, k19⟩, -⟩ := hH
  obtain ⟨hm, h30, -, -, r5⟩ := hR
  have loop : ∀ rr i v, i + rr = m → Mk v (fun c => ex (fun k => decide (gR (hs k) = r) && (tp w hs m c == some k)) i) → WP sa (EV sa d) 13 Q 0 0 4 [.ref h, .int r, .int v, .int (nI i)] [] (n, K, FI, FL, FR, AI, AL, AR) := by
    intro rr
    induction rr with
    | zero =>
      intro i v hi hv
      have hi' : i = m := by omega
      subst hi'
      rw [e13_4]
      simp only [e13_0, e13_1, e13_2, e13_3, e13_5, e13_6, e13_9, e13_12, e13_13, e13_16, e13_17, e13_18, e13_19, e13_22, e13_23, e13_24, e13_27, e13_28, e13_29, e13_30, e13_31, e13_34, e13_37, e13_38, k0, hm, true_and]
      exact ⟨fun _ => hQ v hv, fun q => absurd (nI_le (Nat.le_refl _) (by omega)) q⟩
    | succ rr ih =>
      intro i v hi hv
      have hin : vp_in (nI i) 30 := vp_in_nI (by omega) (by decide)
      have hcl : (nI i).toNatClampNeg = i := nI_clamp (by omega)
      obtain ⟨-, -, -, g4, -, g6⟩ := r5 i (by omega)
      rw [e13_4]
      simp only [e13_0, e13_1, e13_2, e13_3, e13_5, e13_6, e13_9, e13_12, e13_13, e13_16, e13_17, e13_18, e13_19, e13_22, e13_23, e13_24, e13_27, e13_28, e13_29, e13_30, e13_31, e13_34, e13_37, e13_38, k0, hm, f6, f8, k17, k19, rf_some, hin, hcl, g4, nI_1, true_and, true_or, mj_kl]
      refine ⟨fun q => absurd q (nI_ge (by omega) (by omega)), fun _ => ⟨fun q => ?_, fun q => ?_⟩⟩
      · refine ih (i + 1) v (by omega) (hv.congr fun c hc => ?_)
        simp [ex, q]
      · refine ih (i + 1) _ (by omega) ((hv.or g6).congr fun c hc => ?_)
        have q' : gR (hs i) = r := by simpa using q
        simp [ex, q']
  refine n13 k0 ?_
  simp only [e13_0, e13_1, e13_2, e13_3, e13_5, e13_6, e13_9, e13_12, e13_13, e13_16, e13_17, e13_18, e13_19, e13_22, e13_23, e13_24, e13_27, e13_28, e13_29, e13_30, e13_31, e13_34, e13_37, e13_38, mj_kl, mj_u]
  exact loop m 0 0 (by omega) (Mk.zero.congr fun c _ => by simp [ex])
theorem c_findUnseen (hH : HungS K FR h) (hR : HungR FI AI h w hs m) {num : Int32} (hQ : Q (some (.int (oI (fnd (fun k => unseen w hs m k && decide (num = nI (ct (unseen w hs m) k))) m) (-1)))) (n, K, FI, FL, FR, AI, AL, AR)) : EV sa (d + 1) 12 [.ref h, .int num] (n, K, FI, FL, FR, AI, AL, AR) Q := by
  obtain ⟨k0, -, -, -, -, ⟨f8, k19⟩, -⟩ := hH
  obtain ⟨hm, h30, -, -, r5⟩ := hR
  generalize hp : unseen w hs m = p at hQ
  have loop : ∀ rr i, i + rr = m → fnd (fun k => p k && decide (num = nI (ct p k))) i = none → WP sa (EV sa d) 12 Q 0 0 4 [.ref h, .int num, .int (num - nI (ct p i)), .int (nI i)] [] (n, K, FI, FL, FR, AI, AL, AR) := by
    intro rr
    induction rr with
    | zero =>
      intro i hi hf
      have hi' : i = m := by omega
      subst hi'
      rw [e12_4]
      simp only [e12_0, e12_1, e12_2, e12_3, e12_5, e12_6, e12_9, e12_12, e12_13, e12_16, e12_17, e12_18, e12_21, e12_22, e12_25, e12_26, e12_27, e12_30, e12_33, e12_36, e12_37, k0, hm, true_and]
      rw [hf] at hQ
      exact ⟨fun _ => hQ, fun q => absurd (nI_le (Nat.le_refl _) (by omega)) q⟩
    | succ rr ih =>
      intro i hi hf
      have hin : vp_in (nI i) 30 := vp_in_nI (by omega) (by decide)
      have hcl : (nI i).toNatClampNeg = i := nI_clamp (by omega)
      obtain ⟨-, -, -, -, -, g6⟩ := r5 i (by omega)
      have h0 : AI (h + 19) i = 0 ↔ p i = true := by
        rw [g6.eq0, ← hp]
        simp [unseen]
      have et := ct_top p i
      rw [e12_4]
      simp only [e12_0, e12_1, e12_2, e12_3, e12_5, e12_6, e12_9, e12_12, e12_13, e12_16, e12_17, e12_18, e12_21, e12_22, e12_25, e12_26, e12_27, e12_30, e12_33, e12_36, e12_37, k0, hm, f8, k19, rf_some, hin, hcl, nI_1, true_and, true_or, mj_kl, h0]
      refine ⟨fun q => absurd q (nI_ge (by omega) (by omega)), fun _ => ⟨fun q => ?_, fun q => ⟨fun z => ?_, fun z => ?_⟩⟩⟩
      · have q' : p i = false := by simpa using q
        simp only [q', Bool.false_eq_true, if_false] at et
        have := ih (i + 1) (by omega) (fnd_no hf (by simp [q']))
        rw [et] at this
        simpa using this
      · have q' : p i = true := by simpa using q
        simp only [q', if_true] at et
        have z' : ¬ num = nI (ct p i) := fun e => z (by rw [e]; simp)
        have := ih (i + 1) (by omega) (fnd_no hf (by simp [z']))
        rw [et, nI_succ] at this
        have e3 : num - (nI (ct p i) + 1) = num - nI (ct p i) + -1 := by
          simp [Int32.sub_eq_add_neg, Int32.neg_add, Int32.add_assoc]
        rw [e3] at this
        exact this
      · have q' : p i = true := by simpa using q
        have z2 : num - nI (ct p i) = 0 := by simpa using z
        have z3 := congrArg (fun q => q + nI (ct p i)) z2
        have z' : num = nI (ct p i) := by simpa using z3
        rw [fnd_yes hf (by simp [q', ← z']) (show i < m by omega)] at hQ
        exact hQ
  refine n12 k0 ?_
  simp only [e12_0, e12_1, e12_2, e12_3, e12_5, e12_6, e12_9, e12_12, e12_13, e12_16, e12_17, e12_18, e12_21, e12_22, e12_25, e12_26, e12_27, e12_30, e12_33, e12_36, e12_37, mj_kl, mj_u]
  have := loop m 0 (by omega) rfl
  simpa [ct, nI_0] using this
theorem c_touching (hH : HungS K FR h) (hR : HungR FI AI h w hs m) {one a b : Nat} (h1 : one < m) (hb : b ≤ 30) (ha : a ≤ 30) (hQ : ∀ v : Int32, Mk v (fun k => decide (a ≤ k ∧ k < b ∧ k < m) && tch w hs k one) → Q (some (.int v)) (n, K, FI, FL, FR, AI, AL, AR)) : EV sa (d + 1) 11 [.ref h, .int (nI one), .int (nI a), .int (nI b)] (n, K, FI, FL, FR, AI, AL, AR) Q := by
  obtain ⟨k0, -, -, -, ⟨f7, k18⟩, -⟩ := hH
  obtain ⟨hm, h30, -, -, r5⟩ := hR
  have hin1 : vp_in (nI one) 30 := vp_in_nI (by omega) (by decide)
  have hcl1 : (nI one).toNatClampNeg = one := nI_clamp (by omega)
  have loop : ∀ rr i v, i + rr = 31 → a ≤ i → Mk v (fun k => decide (a ≤ k ∧ k < i ∧ k < b ∧ k < m) && tch w hs k one) → WP sa (EV sa d) 11 Q 0 0 6 [.ref h, .int (nI one), .int (nI a), .int (nI b), .int v, .int (nI i)] [] (n, K, FI, FL, FR, AI, AL, AR) := by
    intro rr
    induction rr with
    | zero =>
      intro i v hi hai hv
      rw [e11_6]
      simp only [e11_0, e11_1, e11_3, e11_4, e11_8, e11_9, e11_12, e11_14, e11_15, e11_18, e11_21, e11_22, e11_25, e11_27, e11_28, e11_29, e11_32, e11_33, e11_34, e11_35, e11_38, e11_40, e11_41, e11_43, e11_44, e11_45, e11_47, e11_50, e11_53, e11_55, k0, hm, true_and]
      refine ⟨fun _ => hQ v (hv.congr fun k hk => ?_), fun q => absurd (nI_le (by omega) (by omega)) q⟩
      congr 1
      simp only [decide_eq_decide]
      omega
    | succ rr ih =>
      intro i v hi hai hv
      rw [e11_6]
      have done : (b ≤ i ∨ m ≤ i) → Q (some (.int v)) (n, K, FI, FL, FR, AI, AL, AR) := fun z => hQ v (hv.congr fun k hk => by
        congr 1
        simp only [decide_eq_decide]
        omega)
      by_cases hib : i < b ∧ i < m
      · have hin : vp_in (nI i) 30 := vp_in_nI (by omega) (by decide)
        have hcl : (nI i).toNatClampNeg = i := nI_clamp (by omega)
        have g5 := (r5 i (by omega)).2.2.2.2.1
        have g5' := (r5 one h1).2.2.2.2.1
        have ht : (AI (h + 18) i &&& AI (h + 18) one = 0) ↔ tch w hs i one = false := (g5.and g5').eq0
        simp only [e11_0, e11_1, e11_3, e11_4, e11_8, e11_9, e11_12, e11_14, e11_15, e11_18, e11_21, e11_22, e11_25, e11_27, e11_28, e11_29, e11_32, e11_33, e11_34, e11_35, e11_38, e11_40, e11_41, e11_43, e11_44, e11_45, e11_47, e11_50, e11_53, e11_55, k0, hm, f7, k18, rf_some, hin, hcl, hin1, hcl1, nI_1, true_and, true_or, mj_kl, ht]
        refine ⟨fun q => absurd q (nI_ge (by omega) (by omega)), fun _ => ⟨fun q => absurd q (nI_ge (by omega) (by omega)), fun _ => ⟨fun q => ?_, fun q => ?_⟩⟩⟩
        · refine ih (i + 1) v (by omega) (by omega) (hv.congr fun k hk => ?_)
          by_cases e : k = i
          · subst e; simp [q]
          · congr 1
            simp only [decide_eq_decide]
            omega
        · refine ih (i + 1) _ (by omega) (by omega) ((hv.or (Mk_one (by omega))).congr fun k hk => ?_)
          have q' : tch w hs i one = true := by simpa using q
          by_cases e : k = i
          · subst e; simp [q', hib, hai]
          · simp only [e, decide_false, Bool.or_false]
            congr 1
            simp only [decide_eq_decide]
            omega
      · simp only [e11_0, e11_1, e11_3, e11_4, e11_8, e11_9, e11_12, e11_14, e11_15, e11_18, e11_21, e11_22, e11_25, e11_27, e11_28, e11_29, e11_32, e11_33, e11_34, e11_35, e11_38, e11_40, e11_41, e11_43, e11_44, e11_45, e11_47, e11_50, e11_53, e11_55, k0, hm, true_and]
        refine ⟨fun q => done (Or.inl ((nI_leI (by omega) (by omega)).mp q)), fun q => ⟨fun q2 => done (Or.inr ((nI_leI (by omega) (by omega)).mp q2)), fun q2 => ?_⟩⟩
        exfalso
        rcases Nat.lt_or_ge i b with z | z
        · exact q2 (nI_le (by omega) (by omega))
        · exact q (nI_le z (by omega))
  refine n11 k0 ?_
  simp only [e11_0, e11_1, e11_3, e11_4, e11_8, e11_9, e11_12, e11_14, e11_15, e11_18, e11_21, e11_22, e11_25, e11_27, e11_28, e11_29, e11_32, e11_33, e11_34, e11_35, e11_38, e11_40, e11_41, e11_43, e11_44, e11_45, e11_47, e11_50, e11_53, e11_55, mj_kl, mj_u]
  exact loop (31 - a) a 0 (by omega) (Nat.le_refl _) (Mk.zero.congr fun k hk => by simp; omega)
end
