theorem u2_u2 {α : Type} {f : Nat → Nat → α} {k a : Nat} {v v' : α} : mj_u2 (mj_u2 f k a v) k a v' = mj_u2 f k a v' := by
  funext q j
  simp only [mj_u2]
  split <;> rfl
def HungC (FI : Nat → Nat → Int32) (AI : Nat → Nat → Int32) (h : Nat) (w : Wl) (hs : Nat → Hg) (n : Nat) : Prop :=
  FI 1 h = nI n ∧ n ≤ 30 ∧ FI 2 h = nI (wF w) ∧ (∀ k, k < n → gOK w (hs k) ∧ AI (h + 15) k = nI (gB (hs k)) ∧ AI (h + 16) k = nI (wW w * gY (hs k) + gX (hs k)) ∧ AI (h + 17) k = gR (hs k) ∧ Mk (AI (h + 18) k) (covg w (hs k)))
theorem HungR.toC {FI AI : Nat → Nat → Int32} {h n : Nat} {w : Wl} {hs : Nat → Hg} (hR : HungR FI AI h w hs n) : HungC FI AI h w hs n := ⟨hR.1, hR.2.1, hR.2.2.1, fun k hk => by obtain ⟨a, b, c, e, f, -⟩ := hR.2.2.2.2 k hk; exact ⟨a, b, c, e, f⟩⟩
theorem tp_iff {w : Wl} {hs : Nat → Hg} {c : Nat} : ∀ {n k : Nat}, tp w hs n c = some k ↔ k < n ∧ covg w (hs k) c = true ∧ ∀ j, k < j → j < n → covg w (hs j) c = false
  | 0, k => by simp [tp]
  | n + 1, k => by
    simp only [tp]
    split
    · next hc =>
      constructor
      · intro e; cases e; exact ⟨by omega, hc, fun j h1 h2 => by omega⟩
      · rintro ⟨h1, h2, h3⟩
        rcases Nat.lt_or_ge k n with q | q
        · rw [h3 n q (by omega)] at hc; cases hc
        · rw [show k = n by omega]
    · next hc =>
      rw [tp_iff]
      constructor
      · rintro ⟨h1, h2, h3⟩
        refine ⟨by omega, h2, fun j a b => ?_⟩
        rcases Nat.lt_or_ge j n with q | q
        · exact h3 j a q
        · rw [show j = n by omega]; simpa using hc
      · rintro ⟨h1, h2, h3⟩
        rcases Nat.lt_or_ge k n with q | q
        · exact ⟨q, h2, fun j a b => h3 j a (by omega)⟩
        · rw [show k = n by omega] at h2; exact absurd h2 hc
/-- the cells of the last j of m -/
def covd (C : Nat → Int32) (m : Nat) : Nat → Int32
  | 0 => 0
  | j + 1 => covd C m j ||| C (m - 1 - j)
theorem covd_Mk {C : Nat → Int32} {m : Nat} {p : Nat → Nat → Bool} (h : ∀ k, k < m → Mk (C k) (p k)) : ∀ j, j ≤ m → Mk (covd C m j) (fun c => ex (fun k => decide (m - j ≤ k) && p k c) m)
  | 0, _ => Mk.zero.congr fun c _ => by
    symm; rw [ex_false]; intro k hk; simp; omega
  | j + 1, hj => ((covd_Mk h j (by omega)).or (h (m - 1 - j) (by omega))).congr fun c _ => by
    rw [Bool.eq_iff_iff]
    simp only [Bool.or_eq_true, ex_true, Bool.and_eq_true, decide_eq_true_eq]
    constructor
    · rintro (⟨k, a, b, e⟩ | e)
      · exact ⟨k, a, by omega, e⟩
      · exact ⟨m - 1 - j, by omega, by omega, e⟩
    · rintro ⟨k, a, b, e⟩
      by_cases q : k = m - 1 - j
      · subst q; exact Or.inr e
      · exact Or.inl ⟨k, a, by omega, e⟩
section
variable {sa : Nat → Nat} {d n t h m : Nat} {Q : mj_Q} {K : Nat → Nat × Nat} {FI : Nat → Nat → Int32} {FL : Nat → Nat → Int64} {FR : Nat → Nat → Option Nat} {AI : Nat → Nat → Int32} {AL : Nat → Nat → Int64} {AR : Nat → Nat → Option Nat} {w : Wl} {hs : Nat → Hg}
theorem c_look (hH : HungS K FR h) (hT : ToldS K FR t) (ht : FR 0 h = some t) (hw : wNB w ≤ 4) (hkd : ∀ b, b < wNB w → AI (t + 1) b = nI (wK w b) ∧ wK w b ≤ 3) (sep : t + 13 < h + 15 ∨ h + 22 < t) (hC : HungC FI AI h w hs m) (hQ : ∀ FI' AI' : Nat → Nat → Int32, HungR FI' AI' h w hs m → FI' 12 h = 0 → FIx FI FI' h [3, 12] → AIx AI AI' (h + 19) (h + 19) → Q none (n, K, FI', FL, FR, AI', AL, AR)) : EV sa (d + 1) 6 [.ref h] (n, K, FI, FL, FR, AI, AL, AR) Q := by
  obtain ⟨k0, ⟨f4, k15⟩, -, -, ⟨f7, k18⟩, ⟨f8, k19⟩, -⟩ := hH
  obtain ⟨c1, c2, c3, c4⟩ := hC
  have kt := hT.1
  obtain ⟨f391, kt1⟩ := hT.2.1
  generalize hC : AI (h + 18) = C
  generalize hL : (fun k => wK w (gB (hs k)) == 3) = L
  have hL' : ∀ k, (wK w (gB (hs k)) == 3) = L k := fun k => by rw [← hL]
  generalize hA : (fun (i : Nat) (q j : Nat) => if q = h + 19 ∧ i ≤ j ∧ j < m then C j &&& (covd C m (m - 1 - j) ^^^ (-1)) else AI q j) = A
  have hA' : ∀ i q j, A i q j = if q = h + 19 ∧ i ≤ j ∧ j < m then C j &&& (covd C m (m - 1 - j) ^^^ (-1)) else AI q j := fun i q j => by rw [← hA]
  have hAm : A m = AI := by funext q j; rw [hA', if_neg (by omega)]
  have hAo : ∀ i q, q ≠ h + 19 → A i q = AI q := fun i q hq => by funext j; rw [hA', if_neg (fun z => hq z.1)]
  have hMC : ∀ k, k < m → Mk (C k) (covg w (hs k)) := fun k hk => by rw [← hC]; exact (c4 k hk).2.2.2.2
  have fin : WP sa (EV sa d) 6 Q 0 0 81 [.ref h, .int (covd C m m), .int (nI 0 - 1)] [] (n, K, mj_u2 FI 3 h (nI (ct L m - ct L 0)), FL, FR, A 0, AL, AR) := by
    simp only [e6_81, e6_82, e6_83, e6_86, k0, true_and, true_or]
    refine hQ _ _ ⟨?_, c2, ?_, ?_, fun k hk => ?_⟩ mj_u2_s ?_ ?_
    · simp [mj_u2, c1]
    · simp [mj_u2, c3]
    · rw [hL]; simp [mj_u2, ct]
    · obtain ⟨g1, g2, g3, g4, g5⟩ := c4 k hk
      rw [hAo _ _ (by omega), hAo _ _ (by omega), hAo _ _ (by omega), hAo _ _ (by omega)]
      refine ⟨g1, g2, g3, g4, g5, ?_⟩
      rw [hA', if_pos ⟨rfl, by omega, hk⟩]
      refine ((hMC k hk).and (covd_Mk (p := fun k c => covg w (hs k) c) hMC (m - 1 - k) (by omega)).not).congr fun c hc => ?_
      rw [Bool.eq_iff_iff]
      simp only [Bool.and_eq_true, Bool.not_eq_true', ex_false, beq_iff_eq, tp_iff]
      constructor
      · rintro ⟨a, b⟩
        exact ⟨hk, a, fun j z1 z2 => by simpa [show m - (m - 1 - k) ≤ j by omega] using b j z2⟩
      · rintro ⟨-, a, b⟩
        refine ⟨a, fun j z => ?_⟩
        by_cases q : k < j
        · simp [b j q z]
        · simp; omega
    · intro f a hfa
      simp only [mj_u2]
      simp at hfa
      split <;> rename_i z
      · obtain ⟨rfl, rfl⟩ := z; simp at hfa
      · split <;> rename_i z2
        · obtain ⟨rfl, rfl⟩ := z2; simp at hfa
        · rfl
    · intro q hq
      exact hAo 0 q (by omega)
  have loop : ∀ i, i ≤ m → WP sa (EV sa d) 6 Q 0 0 14 [.ref h, .int (covd C m (m - i)), .int (nI i - 1)] [] (n, K, mj_u2 FI 3 h (nI (ct L m - ct L i)), FL, FR, A i, AL, AR) := by
    intro i
    induction i with
    | zero =>
      intro _
      rw [e6_14]
      simp only [e6_15]
      exact ⟨fun _ => fin, fun q => absurd (by decide) q⟩
    | succ i ih =>
      intro hi
      have hin : vp_in (nI i) 30 := vp_in_nI (by omega) (by decide)
      have hcl : (nI i).toNatClampNeg = i := nI_clamp (by omega)
      obtain ⟨g1, g2, g3, g4, g5⟩ := c4 i (by omega)
      have gb : gB (hs i) < wNB w := g1.1
      have hbin : vp_in (nI (gB (hs i))) 4 := vp_in_nI (by omega) (by decide)
      have hbcl : (nI (gB (hs i))).toNatClampNeg = gB (hs i) := nI_clamp (by omega)
      have nx := ih (by omega)
      have a15 : A (i + 1) (h + 15) = AI (h + 15) := hAo _ _ (by omega)
      have a18 : A (i + 1) (h + 18) = C := (hAo _ _ (by omega)).trans hC
      have at1 : A (i + 1) (t + 1) = AI (t + 1) := hAo _ _ (by omega)
      have eA : mj_u2 (A (i + 1)) (h + 19) i (C i &&& (covd C m (m - (i + 1)) ^^^ (-1))) = A i := by
        funext q j
        simp only [mj_u2, hA']
        by_cases hq : q = h + 19
        · subst hq
          by_cases hj : j = i
          · subst hj
            rw [if_pos ⟨rfl, rfl⟩, if_pos ⟨rfl, by omega, by omega⟩, show m - 1 - j = m - (j + 1) by omega]
          · rw [if_neg (fun z => hj z.2)]
            have : (i + 1 ≤ j ∧ j < m) ↔ (i ≤ j ∧ j < m) := by omega
            simp [this]
        · simp [hq]
      have ec : covd C m (m - (i + 1)) ||| C i = covd C m (m - i) := by
        rw [show m - i = (m - (i + 1)) + 1 by omega]
        simp only [covd]
        rw [show m - 1 - (m - (i + 1)) = i by omega]
      have kk := (hkd _ gb)
      have ml := ct_mono L (show i + 1 ≤ m from hi)
      have et := ct_top L i
      have eq3 : (nI (wK w (gB (hs i))) = 3) ↔ L i = true := by
        rw [← hL', show (3 : Int32) = nI 3 from rfl, nI_eq (by omega) (by decide)]
        simp
      have hin19 : ∀ x : Int32, mj_u2 (mj_u2 FI 3 h (nI (ct L m - ct L (i + 1)))) 3 h x = mj_u2 FI 3 h x := fun x => u2_u2
      have z15 : mj_u2 (A (i + 1)) (h + 19) i (C i &&& (covd C m (m - (i + 1)) ^^^ (-1))) (h + 15) i = nI (gB (hs i)) := by rw [mj_u2_1 (by omega), a15]; exact g2
      rw [e6_14, nI_pred]
      simp only [e6_0, e6_1, e6_2, e6_3, e6_4, e6_7, e6_8, e6_11, e6_12, e6_13, e6_15, e6_18, e6_19, e6_22, e6_23, e6_24, e6_27, e6_28, e6_29, e6_30, e6_31, e6_32, e6_33, e6_34, e6_35, e6_36, e6_39, e6_40, e6_41, e6_42, e6_43, e6_44, e6_44i, e6_45, e6_48, e6_49, e6_52, e6_55, e6_56, e6_59, e6_60, e6_61, e6_62, e6_63, e6_66, e6_67, e6_70, e6_71, e6_72, e6_75, e6_78, e6_82, e6_83, e6_86, k0, f4, f7, f8, k15, k18, k19, rf_some, hin, hcl, true_and, true_or, mj_kl, ht, kt, f391, kt1, a18, eA, ec, mj_u2_s]
      rw [eA] at z15
      have zt : A i (t + 1) = AI (t + 1) := hAo _ _ (by omega)
      have z18 : A i (h + 18) = C := (hAo _ _ (by omega)).trans hC
      simp only [z15, zt, z18, hbin, hbcl, kk.1, true_and, ec, hin19, eq3]
      refine ⟨fun q => absurd q (nI_pos (by omega)), fun _ => ⟨fun q => ?_, fun q => ?_⟩⟩
      · have q' : L i = false := by simpa using q
        simp only [q', Bool.false_eq_true, if_false] at et
        rw [show ct L i = ct L (i + 1) by omega] at nx
        simpa [Int32.sub_eq_add_neg] using nx
      · have q' : L i = true := by simpa using q
        simp only [q', if_true] at et
        rw [show ct L m - ct L i = ct L m - ct L (i + 1) + 1 by omega, nI_succ] at nx
        simpa [Int32.sub_eq_add_neg] using nx
  refine n6 k0 ?_
  simp only [e6_0, e6_1, e6_2, e6_3, e6_4, e6_7, e6_8, e6_11, e6_12, e6_13, e6_15, e6_18, e6_19, e6_22, e6_23, e6_24, e6_27, e6_28, e6_29, e6_30, e6_31, e6_32, e6_33, e6_34, e6_35, e6_36, e6_39, e6_40, e6_41, e6_42, e6_43, e6_44, e6_44i, e6_45, e6_48, e6_49, e6_52, e6_55, e6_56, e6_59, e6_60, e6_61, e6_62, e6_63, e6_66, e6_67, e6_70, e6_71, e6_72, e6_75, e6_78, e6_82, e6_83, e6_86, mj_kl, mj_u, k0, true_and]
  have := loop m (Nat.le_refl _)
  rw [hAm] at this
  simpa [covd, nI_0, mj_u2, c1] using this
end
section
variable {sa : Nat → Nat} {d n t h m : Nat} {Q : mj_Q} {K : Nat → Nat × Nat} {FI : Nat → Nat → Int32} {FL : Nat → Nat → Int64} {FR : Nat → Nat → Option Nat} {AI : Nat → Nat → Int32} {AL : Nat → Nat → Int64} {AR : Nat → Nat → Option Nat} {w : Wl} {hs : Nat → Hg}
/-- fewer hang: the first m' of them -/
theorem HungR.cut {m' : Nat} (hR : HungR FI AI h w hs m) (hm : m' ≤ m) : HungC (mj_u2 FI 1 h (nI m')) AI h w hs m' := by
  obtain ⟨r1, r2, r3, r4, r5⟩ := hR
  refine ⟨mj_u2_s, by omega, ?_, fun k hk => ?_⟩
  · rw [mj_u2_1 (by decide)]; exact r3
  · obtain ⟨g1, g2, g3, g4, g5, g6⟩ := r5 k (by omega)
    exact ⟨g1, g2, g3, g4, g5⟩
theorem c_cutTo {m' : Nat} (hH : HungS K FR h) (hT : ToldS K FR t) (ht : FR 0 h = some t) (hw : wNB w ≤ 4) (hkd : ∀ b, b < wNB w → AI (t + 1) b = nI (wK w b) ∧ wK w b ≤ 3) (sep : t + 13 < h + 15 ∨ h + 22 < t) (hC : HungC (mj_u2 FI 1 h (nI m')) AI h w hs m') (hm : FI 1 h = nI m) (h30 : m ≤ 30) (hmm : m' ≤ m) (hQ : ∀ FI' AI' : Nat → Nat → Int32, HungR FI' AI' h w hs m' → FI' 12 h = 0 → FIx FI FI' h [1, 3, 12] → AIx AI AI' (h + 19) (h + 19) → Q none (n, K, FI', FL, FR, AI', AL, AR)) : EV sa (d + 2) 4 [.ref h, .int (nI m')] (n, K, FI, FL, FR, AI, AL, AR) Q := by
  have k0 := hH.1
  refine n4 k0 ?_
  simp only [e4_0, e4_1, e4_4, e4_5, e4_6, e4_9, e4_12, e4_13, e4_14, e4_17, e4_18, e4_21, k0, hm, true_and]
  refine ⟨fun q => absurd q (nI_pos (by omega)), fun _ => ⟨fun q => absurd (nI_le hmm (by omega)) (Int32.not_le.mpr q), fun _ => ⟨by simp, ?_⟩⟩⟩
  refine c_look hH hT ht hw hkd sep hC fun FI' AI' a1 a2 a3 a4 => ?_
  simp only [tl_none, e4_0, e4_1, e4_4, e4_5, e4_6, e4_9, e4_12, e4_13, e4_14, e4_17, e4_18, e4_21]
  refine hQ FI' AI' a1 a2 ?_ a4
  intro f a hfa
  have h1 := a3 f a (hfa.imp id (fun z z2 => z (by simp at z2 ⊢; omega)))
  rw [h1]
  refine if_neg fun z => ?_
  obtain ⟨rfl, rfl⟩ := z
  simp at hfa
end
