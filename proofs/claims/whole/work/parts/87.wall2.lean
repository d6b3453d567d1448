section
variable {sa : Nat → Nat} {d n t h m : Nat} {Q : mj_Q} {K : Nat → Nat × Nat} {FI : Nat → Nat → Int32} {FL : Nat → Nat → Int64} {FR : Nat → Nat → Option Nat} {AI : Nat → Nat → Int32} {AL : Nat → Nat → Int64} {AR : Nat → Nat → Option Nat} {w : Wl} {hs : Nat → Hg}
variable {x o : Nat} {P : PG}
theorem CSt.r320 {v : Option Nat} (hS : CSt K FR AR x o h) : CSt K (mj_u2 FR 320 (x + 25 + 1) v) AR x o h := by
  have ee : ∀ k a, (k ≠ 320 ∨ a ≠ x + 25 + 1) → mj_u2 FR 320 (x + 25 + 1) v k a = FR k a := fun k a hq => if_neg (fun z => hq.elim (fun q => q z.1) (fun q => q z.2))
  obtain ⟨k0, ⟨f1, k1⟩, f2, f3, f4, f5, f6, f7, hoh, ⟨hH, hT, ht⟩, hTe, ⟨e1, g1, s1, s1'⟩, ⟨e2, g2, s2, s2'⟩, hR, hO⟩ := hS
  obtain ⟨t0, t1, t2, ⟨t3, t3'⟩, ⟨t4, t4'⟩, t5, t6, t7, t8, t9, t10⟩ := hTe
  refine ⟨k0, ⟨by rw [ee _ _ (Or.inl (by decide))]; exact f1, k1⟩, by rw [ee _ _ (Or.inl (by decide))]; exact f2, by rw [ee _ _ (Or.inl (by decide))]; exact f3, by rw [ee _ _ (Or.inl (by decide))]; exact f4, by rw [ee _ _ (Or.inl (by decide))]; exact f5, by rw [ee _ _ (Or.inl (by decide))]; exact f6, by rw [ee _ _ (Or.inl (by decide))]; exact f7, hoh, ⟨hH.fld (by decide), hT.fld (Or.inl (by decide)), by rw [ee _ _ (Or.inl (by decide))]; exact ht⟩, ⟨t0, by rw [ee _ _ (Or.inl (by decide))]; exact t1, t2, ⟨by rw [ee _ _ (Or.inl (by decide))]; exact t3, t3'⟩, ⟨by rw [ee _ _ (Or.inl (by decide))]; exact t4, t4'⟩, by rw [ee _ _ (Or.inl (by decide))]; exact t5, by rw [ee _ _ (Or.inl (by decide))]; exact t6, t7.fld (by decide), t8.fld (Or.inl (by decide)), by rw [ee _ _ (Or.inl (by decide))]; exact t9, t10⟩, ⟨e1, g1, (ShelfS.fr fun k => ee k _ (Or.inr (by omega))).mpr s1, s1'⟩, ⟨e2, g2, (ShelfS.fr fun k => ee k _ (Or.inr (by omega))).mpr s2, s2'⟩, hR.fld (by decide) (by decide), hO.fld (by decide) (by decide)⟩
/-- the two walls change places -/
theorem CSt.swap {R : Nat → Nat → Option Nat} (hS : CSt K FR AR x o h) (ee : ∀ k a, a ≠ x → a ≠ x + 25 → R k a = FR k a) (ex' : ∀ k, k ≠ 450 → R k x = FR k x) (e450 : R 450 x = some h) (et : ∀ k, k ≠ 259 → k ≠ 260 → R k (x + 25) = FR k (x + 25)) (e259 : R 259 (x + 25) = some o) (e260 : R 260 (x + 25) = some (o + 1)) : CSt K R AR x h o := by
  obtain ⟨k0, ⟨f1, k1⟩, f2, f3, f4, f5, f6, f7, hoh, ⟨hH, hT, ht⟩, hTe, ⟨e1, g1, s1, s1'⟩, ⟨e2, g2, s2, s2'⟩, hR, hO⟩ := hS
  obtain ⟨t0, t1, t2, ⟨t3, t3'⟩, ⟨t4, t4'⟩, t5, t6, t7, t8, t9, t10⟩ := hTe
  have eo : ∀ k, R k o = FR k o := fun k => ee k o (by omega) (by omega)
  have eo1 : ∀ k, R k (o + 1) = FR k (o + 1) := fun k => ee k (o + 1) (by omega) (by omega)
  have eh : ∀ k, R k h = FR k h := fun k => ee k h (by omega) (by omega)
  have eh1 : ∀ k, R k (h + 1) = FR k (h + 1) := fun k => ee k (h + 1) (by omega) (by omega)
  have hgo : ∀ a, (∀ k, R k a = FR k a) → HungS K FR a → HungS K R a := fun a e hh => by
    unfold HungS at hh ⊢
    simp only [e]
    exact hh
  have tgo : ∀ a, (∀ k, R k a = FR k a) → ToldS K FR a → ToldS K R a := fun a e hh => by
    unfold ToldS at hh ⊢
    simp only [e]
    exact hh
  refine ⟨k0, ⟨by rw [ex' _ (by decide)]; exact f1, k1⟩, e450, by rw [ex' _ (by decide)]; exact f3, by rw [ex' _ (by decide)]; exact f4, by rw [ex' _ (by decide)]; exact f5, by rw [ex' _ (by decide)]; exact f6, by rw [ex' _ (by decide)]; exact f7, by omega, ⟨hgo h eh t7, tgo (h + 1) eh1 t8, by rw [eh]; exact t9⟩, ⟨t0, by rw [et _ (by decide) (by decide)]; exact t1, t2, ⟨by rw [et _ (by decide) (by decide)]; exact t3, t3'⟩, ⟨by rw [et _ (by decide) (by decide)]; exact t4, t4'⟩, e259, e260, hgo o eo hH, tgo (o + 1) eo1 hT, by rw [eo]; exact ht, by omega⟩, ⟨e1, g1, (ShelfS.fr fun k => ee k _ (by omega) (by omega)).mpr s1, s1'⟩, ⟨e2, g2, (ShelfS.fr fun k => ee k _ (by omega) (by omega)).mpr s2, s2'⟩, ⟨hR.1, by rw [ee _ _ (by omega) (by omega)]; exact hR.2.1, hgo _ (fun k => ee k _ (by omega) (by omega)) hR.2.2⟩, ⟨hO.1, by rw [ee _ _ (by omega) (by omega)]; exact hO.2.1, hgo _ (fun k => ee k _ (by omega) (by omega)) hO.2.2⟩⟩
end
section
variable {sa : Nat → Nat} {d n t h m : Nat} {Q : mj_Q} {K : Nat → Nat × Nat} {FI : Nat → Nat → Int32} {FL : Nat → Nat → Int64} {FR : Nat → Nat → Option Nat} {AI : Nat → Nat → Int32} {AL : Nat → Nat → Int64} {AR : Nat → Nat → Option Nat} {w : Wl} {hs : Nat → Hg}
variable {x : Nat} {P : PG}
theorem c_wall (hV : InvC x P (n, K, FI, FL, FR, AI, AL, AR)) {k : Int32} (hQ : ∀ μ', InvC x (sp_wall P k).2 μ' → FrC x (n, K, FI, FL, FR, AI, AL, AR) μ' → Q (some (.int (sp_wall P k).1)) μ') : EV sa (d + 16) 100 [.ref x, .int k] (n, K, FI, FL, FR, AI, AL, AR) Q := by
  obtain ⟨o, h, hS, hI⟩ := hV
  replace hS : CSt K FR AR x o h := hS
  replace hI : CInv x o P K FR AR FI AI AL := hI
  obtain ⟨k0, ⟨f448, k1⟩, f450, f451, f452, f453, f454, f455, hoh, ⟨hH, hT, ht⟩, hTe, ⟨e1, g1, s1, s1'⟩, ⟨e2, g2, s2, s2'⟩, hRow, hOrd⟩ := id hS
  have hno := hS.now
  obtain ⟨a1, a2, a3, a4, a5, a6, a7, a8⟩ := id hI.1
  unfold sp_wall at hQ
  have bad : ¬ (0 ≤ k ∧ k ≤ nI (gZ P)) → Q (some (.int (-1))) (n, K, mj_u2 FI 456 x 2, FL, FR, AI, AL, AR) := fun q => by
    have f := finC (n := n) (FI := FI) (FL := FL) (FR := FR) (AI := AI) (AL := AL) (G := FL) (k := 2) hS hI (fun a _ => ⟨fun _ => ⟨rfl, rfl, rfl⟩, rfl, rfl⟩) (by decide)
    rw [if_neg q] at hQ
    exact hQ _ f.1 f.2
  refine n100 k0 ?_
  simp only [e100_0, e100_1, e100_4, e100_5, e100_6, e100_9, e100_12, e100_13, e100_14, e100_17, e100_18, e100_19, e100_20, e100_23, e100_24, e100_25, e100_28, e100_29, e100_32, e100_33, e100_36, e100_39, e100_40, e100_43, e100_46, e100_47, e100_48, e100_51, e100_54, e100_57, e100_58, e100_59, e100_62, e100_63, e100_64, e100_65, e100_68, e100_69, e100_72, e100_75, e100_78, e100_79, e100_82, e100_85, e100_86, e100_89, e100_92, e100_93, e100_94, e100_97, e100_100, e100_103, e100_106, k0, a2, f451, f448, rf_some, true_and]
  refine ⟨fun z => ⟨by simp, c_refuse hS ?_⟩, fun z => ⟨fun z2 => ⟨by simp, ?_⟩, fun z2 => ⟨by simp, c_refuse hS ?_⟩⟩⟩
  · simp only [tl_some, e100_0, e100_1, e100_4, e100_5, e100_6, e100_9, e100_12, e100_13, e100_14, e100_17, e100_18, e100_19, e100_20, e100_23, e100_24, e100_25, e100_28, e100_29, e100_32, e100_33, e100_36, e100_39, e100_40, e100_43, e100_46, e100_47, e100_48, e100_51, e100_54, e100_57, e100_58, e100_59, e100_62, e100_63, e100_64, e100_65, e100_68, e100_69, e100_72, e100_75, e100_78, e100_79, e100_82, e100_85, e100_86, e100_89, e100_92, e100_93, e100_94, e100_97, e100_100, e100_103, e100_106]
    exact bad (fun q => absurd z (Int32.not_lt.mpr q.1))
  · have hk : 0 ≤ k ∧ k ≤ nI (gZ P) := ⟨Int32.not_lt.mp z, z2⟩
    obtain ⟨E, hE2, ek⟩ := nI_of z
    have hEz : E ≤ gZ P := by rw [ek] at z2; exact (nI_leI hE2 (by omega)).mp z2
    have ekn : k.toNatClampNeg = E := by rw [ek]; exact nI_clamp hE2
    rw [if_pos hk, ekn] at hQ
    rw [ek]
    have eT : AI (x + 1) = gT P := a1
    refine c_readText hTe k1 (Or.inl (by omega)) (by omega) (by omega) (fun f a e F2 A2 G2 L2 b1 b2 => ?_) (fun S e F2 A2 G2 L2 b1 b2 => ?_)
    · have hok := okF_all (T := AI (x + 1)) (E := E) (f := E + 1) (p := rn isSp (AI (x + 1)) E 0) (S := S_0) (f, a) e
      rw [eT] at e
      rw [e] at hQ
      have hS2 := hS.r320 (v := some (x + 1))
      have f451' := hS2.2.2.2.1
      have u457 : ∀ v : Int32, mj_u2 F2 457 x v 457 x = v := fun v => mj_u2_s
      have u263 : ∀ v : Int32, mj_u2 F2 457 x v 263 (x + 25) = nI a := fun v => by rw [mj_u2_1 (by decide)]; exact b1
      simp only [tl_some, e100_0, e100_1, e100_4, e100_5, e100_6, e100_9, e100_12, e100_13, e100_14, e100_17, e100_18, e100_19, e100_20, e100_23, e100_24, e100_25, e100_28, e100_29, e100_32, e100_33, e100_36, e100_39, e100_40, e100_43, e100_46, e100_47, e100_48, e100_51, e100_54, e100_57, e100_58, e100_59, e100_62, e100_63, e100_64, e100_65, e100_68, e100_69, e100_72, e100_75, e100_78, e100_79, e100_82, e100_85, e100_86, e100_89, e100_92, e100_93, e100_94, e100_97, e100_100, e100_103, e100_106, k0, f451', hTe.1, rf_some, u457, u263, true_and]
      refine ⟨fun y => absurd y (nI_ne0 (by have := hok.1; exact this) (by have := hok.2; simp only [] at this; omega)), fun _ => ⟨by simp, c_refuse hS2 ?_⟩⟩
      simp only [tl_some, e100_0, e100_1, e100_4, e100_5, e100_6, e100_9, e100_12, e100_13, e100_14, e100_17, e100_18, e100_19, e100_20, e100_23, e100_24, e100_25, e100_28, e100_29, e100_32, e100_33, e100_36, e100_39, e100_40, e100_43, e100_46, e100_47, e100_48, e100_51, e100_54, e100_57, e100_58, e100_59, e100_62, e100_63, e100_64, e100_65, e100_68, e100_69, e100_72, e100_75, e100_78, e100_79, e100_82, e100_85, e100_86, e100_89, e100_92, e100_93, e100_94, e100_97, e100_100, e100_103, e100_106]
      have fo : ∀ q, (q < x + 25 ∨ x + 29 < q) → (q < h ∨ h + 22 < q) → q ≠ x → (∀ g, F2 g q = FI g q) ∧ A2 q = AI q ∧ L2 q = AL q := fun q q1 q2 q3 => ⟨fun g => by rw [(b2 q (by omega) q2).1]; exact mj_u2_2 q3, (b2 q (by omega) q2).2.2.1, (b2 q (by omega) q2).2.2.2⟩
      have fxx : ∀ g, g ≠ 449 → F2 g x = FI g x := fun g hg => by rw [(b2 x (by omega) (by omega)).1]; exact mj_u2_1 hg
      have x3 : ∀ q, q ≠ x → ∀ g, mj_u2 (mj_u2 F2 457 x (nI f)) 458 x (nI a) g q = F2 g q := fun q hq g => by rw [mj_u2_2 hq, mj_u2_2 hq]
      have hI3 : CInv x o (gT P, 0, gW P, gTr P, f, a) K (mj_u2 FR 320 (x + 25 + 1) (some (x + 1))) AR (mj_u2 (mj_u2 F2 457 x (nI f)) 458 x (nI a)) A2 L2 := by
        refine CInv.keep (P' := (gT P, 0, gW P, gTr P, f, a)) hI hS rfl ⟨?_, ?_, Nat.zero_le _, ?_, ?_, mj_u2_s, a7, hok.2⟩ (fun q hq => ?_)
        · rw [(b2 (x + 1) (by omega) (by omega)).2.2.1]; exact a1
        · rw [mj_u2_1 (by decide), mj_u2_1 (by decide), (b2 x (by omega) (by omega)).1, mj_u2_s]; rfl
        · rw [mj_u2_1 (by decide), mj_u2_1 (by decide), fxx _ (by decide)]; exact a4
        · rw [mj_u2_1 (by decide), mj_u2_s]; rfl
        · obtain ⟨w1, w2, w3⟩ := fo q (by omega) (by omega) (by omega)
          exact ⟨fun g => by rw [x3 q (by omega)]; exact w1 g, w2, w3, fun k => mj_u2_2 (by omega)⟩
      have fn := finC (n := n) (FI := FI) (FL := FL) (FR := FR) (AI := AI) (AL := AL) (G := G2) (k := 4) hS2 hI3 (fun q hq => by
        obtain ⟨w1, w2, w3⟩ := fo q (by omega) (by omega) (by omega)
        exact ⟨fun g => ⟨by rw [x3 q (by omega)]; exact w1 g, (b2 q (by omega) (by omega)).2.1 g, mj_u2_2 (by omega)⟩, w2, w3⟩) (by decide)
      exact hQ _ fn.1 fn.2
    · rw [eT] at e
      have hnb := pText_ok e
      rw [e] at hQ
      have hS2 := hS.r320 (v := some (x + 1))
      obtain ⟨-, -, f450', f451', f452', f453', -, -, -, ⟨hH', -, ht'⟩, hTe', -⟩ := id hS2
      generalize hR2 : mj_u2 FR 320 (x + 25 + 1) (some (x + 1)) = R2 at *
      have hHC : HC K R2 F2 A2 L2 h (h + 1) (sW S) (sHs S) (sM S) := by
        rcases b1.2.2.2.2.2 with r | r
        · have := r.1.1.2.2.2.2.1
          omega
        · exact r
      have u457 : mj_u2 F2 457 x 0 457 x = 0 := mj_u2_s
      simp only [tl_some, e100_0, e100_1, e100_4, e100_5, e100_6, e100_9, e100_12, e100_13, e100_14, e100_17, e100_18, e100_19, e100_20, e100_23, e100_24, e100_25, e100_28, e100_29, e100_32, e100_33, e100_36, e100_39, e100_40, e100_43, e100_46, e100_47, e100_48, e100_51, e100_54, e100_57, e100_58, e100_59, e100_62, e100_63, e100_64, e100_65, e100_68, e100_69, e100_72, e100_75, e100_78, e100_79, e100_82, e100_85, e100_86, e100_89, e100_92, e100_93, e100_94, e100_97, e100_100, e100_103, e100_106, k0, f450', f451', rf_some, u457, true_and]
      refine ⟨fun _ => ⟨by simp, c_handOver hTe' hH'.1 ht' ?_⟩, fun y => absurd trivial y⟩
      simp only [tl_some, e100_0, e100_1, e100_4, e100_5, e100_6, e100_9, e100_12, e100_13, e100_14, e100_17, e100_18, e100_19, e100_20, e100_23, e100_24, e100_25, e100_28, e100_29, e100_32, e100_33, e100_36, e100_39, e100_40, e100_43, e100_46, e100_47, e100_48, e100_51, e100_54, e100_57, e100_58, e100_59, e100_62, e100_63, e100_64, e100_65, e100_68, e100_69, e100_72, e100_75, e100_78, e100_79, e100_82, e100_85, e100_86, e100_89, e100_92, e100_93, e100_94, e100_97, e100_100, e100_103, e100_106, k0, true_and]
      generalize hR3 : mj_u2 (mj_u2 (mj_u2 R2 259 (x + 25) (some o)) 260 (x + 25) (some (o + 1))) 450 x (some h) = R3
      have r3 : ∀ g a, a ≠ x → a ≠ x + 25 → R3 g a = R2 g a := fun g a w1 w2 => by rw [← hR3, mj_u2_2 w1, mj_u2_2 w2, mj_u2_2 w2]
      have r3x : ∀ g, g ≠ 450 → R3 g x = R2 g x := fun g hg => by rw [← hR3, mj_u2_1 hg, mj_u2_2 (by omega), mj_u2_2 (by omega)]
      have r3t : ∀ g, g ≠ 259 → g ≠ 260 → R3 g (x + 25) = R2 g (x + 25) := fun g w1 w2 => by rw [← hR3, mj_u2_2 (by omega), mj_u2_1 w2, mj_u2_1 w1]
      have r450 : R3 450 x = some h := by rw [← hR3, mj_u2_s]
      have hS3 : CSt K R3 AR x h o := hS2.swap r3 r3x r450 r3t (by rw [← hR3, mj_u2_2 (by omega), mj_u2_1 (by decide), mj_u2_s]) (by rw [← hR3, mj_u2_2 (by omega), mj_u2_s])
      have f452'' := hS3.2.2.2.2.1
      have f453'' := hS3.2.2.2.2.2.1
      have t1 : ShelfS K R3 AR (x + 53) e1 g1 12 := (ShelfS.fr fun k => by rw [r3 k _ (by omega) (by omega), ← hR2]; exact mj_u2_2 (by omega)).mpr s1
      have t2 : ShelfS K R3 AR (x + 67) e2 g2 3 := (ShelfS.fr fun k => by rw [r3 k _ (by omega) (by omega), ← hR2]; exact mj_u2_2 (by omega)).mpr s2
      simp only [e100_0, e100_1, e100_4, e100_5, e100_6, e100_9, e100_12, e100_13, e100_14, e100_17, e100_18, e100_19, e100_20, e100_23, e100_24, e100_25, e100_28, e100_29, e100_32, e100_33, e100_36, e100_39, e100_40, e100_43, e100_46, e100_47, e100_48, e100_51, e100_54, e100_57, e100_58, e100_59, e100_62, e100_63, e100_64, e100_65, e100_68, e100_69, e100_72, e100_75, e100_78, e100_79, e100_82, e100_85, e100_86, e100_89, e100_92, e100_93, e100_94, e100_97, e100_100, e100_103, e100_106, k0, f452'', rf_some, true_and]
      refine ⟨by simp, c_forgetAll t1 fun F4 d1 d2 => ?_⟩
      simp only [tl_none, e100_0, e100_1, e100_4, e100_5, e100_6, e100_9, e100_12, e100_13, e100_14, e100_17, e100_18, e100_19, e100_20, e100_23, e100_24, e100_25, e100_28, e100_29, e100_32, e100_33, e100_36, e100_39, e100_40, e100_43, e100_46, e100_47, e100_48, e100_51, e100_54, e100_57, e100_58, e100_59, e100_62, e100_63, e100_64, e100_65, e100_68, e100_69, e100_72, e100_75, e100_78, e100_79, e100_82, e100_85, e100_86, e100_89, e100_92, e100_93, e100_94, e100_97, e100_100, e100_103, e100_106, k0, f453'', rf_some, true_and]
      refine ⟨by simp, c_forgetAll t2 fun F5 d3 d4 => ?_⟩
      have f5 : ∀ q, q ≠ x + 53 → q ≠ x + 67 → ∀ g, F5 g q = mj_u2 F2 457 x 0 g q := fun q w1 w2 g => by rw [d4 g q (Or.inl w2), d2 g q (Or.inl w1)]
      have f5' : ∀ q, q ≠ x → q ≠ x + 53 → q ≠ x + 67 → ∀ g, F5 g q = F2 g q := fun q w0 w1 w2 g => by rw [f5 q w1 w2, mj_u2_2 w0]
      have hHC5 : HC K R3 F5 A2 L2 h (h + 1) (sW S) (sHs S) (sM S) := hHC.blk fun q q1 q2 => ⟨f5' q (by omega) (by omega) (by omega), rfl, rfl, fun g => r3 g q (by omega) (by omega)⟩
      have y388 : F5 388 (h + 1) = nI (wNB (sW S)) := hHC5.2.2.2.2.1.1.2.2.2.2.1
      simp only [tl_none, e100_0, e100_1, e100_4, e100_5, e100_6, e100_9, e100_12, e100_13, e100_14, e100_17, e100_18, e100_19, e100_20, e100_23, e100_24, e100_25, e100_28, e100_29, e100_32, e100_33, e100_36, e100_39, e100_40, e100_43, e100_46, e100_47, e100_48, e100_51, e100_54, e100_57, e100_58, e100_59, e100_62, e100_63, e100_64, e100_65, e100_68, e100_69, e100_72, e100_75, e100_78, e100_79, e100_82, e100_85, e100_86, e100_89, e100_92, e100_93, e100_94, e100_97, e100_100, e100_103, e100_106, k0, r450, hHC5.1.1, hHC5.2.1.1, hHC5.2.2.1, rf_some, y388, true_and]
      refine ⟨by simp, c_answer hS3 ?_⟩
      simp only [tl_some, e100_0, e100_1, e100_4, e100_5, e100_6, e100_9, e100_12, e100_13, e100_14, e100_17, e100_18, e100_19, e100_20, e100_23, e100_24, e100_25, e100_28, e100_29, e100_32, e100_33, e100_36, e100_39, e100_40, e100_43, e100_46, e100_47, e100_48, e100_51, e100_54, e100_57, e100_58, e100_59, e100_62, e100_63, e100_64, e100_65, e100_68, e100_69, e100_72, e100_75, e100_78, e100_79, e100_82, e100_85, e100_86, e100_89, e100_92, e100_93, e100_94, e100_97, e100_100, e100_103, e100_106]
      have fxx : ∀ g, g ≠ 449 → g ≠ 457 → F5 g x = FI g x := fun g w1 w2 => by rw [f5 x (by omega) (by omega), mj_u2_1 w2, (b2 x (by omega) (by omega)).1]; exact mj_u2_1 w1
      have hI5 : CInv x h (gT P, 0, some (WSof S), gTr P, 0, gFa P) K R3 AR F5 A2 L2 := by
        refine ⟨⟨?_, ?_, Nat.zero_le _, ?_, ?_, ?_, a7, Nat.zero_le 7⟩, hHC5, ?_, ⟨?_, ?_, fun j hj => ⟨?_, ?_⟩, fun r hr => ?_⟩, ShV.of t1 ?_ (fun i hi => absurd hi (Nat.not_lt_zero i)), ShV.of t2 (d3 A2 (sW S) E_0) (fun i hi => absurd hi (Nat.not_lt_zero i))⟩
        · rw [(b2 (x + 1) (by omega) (by omega)).2.2.1]; exact a1
        · rw [f5 x (by omega) (by omega), mj_u2_1 (by decide), (b2 x (by omega) (by omega)).1, mj_u2_s]; rfl
        · rw [fxx _ (by decide) (by decide)]; exact a4
        · rw [f5 x (by omega) (by omega), mj_u2_s]; rfl
        · rw [fxx _ (by decide) (by decide)]; exact a6
        · intro r hr
          exact b1.2.2.2.1.1 r hr
        · show wF (sW S) ≤ sM S
          have := b1.1
          omega
        · exact hHC5.2.2.2.2.2.1.2.1
        · exact (hHC5.2.2.2.2.2.1.2.2.2.2 j hj).1
        · exact b1.2.2.2.2.1 j hj
        · exact ⟨sSh S r, b1.2.2.2.1.2 r hr, rfl⟩
        · obtain ⟨w1, w2, old, w3, w4, w5⟩ := d1 A2 (sW S) E_0
          exact ⟨w1, by rw [d4 _ _ (Or.inl (by omega))]; exact w2, old, w3, by rw [d4 _ _ (Or.inl (by omega))]; exact w4, w5⟩
      have fn := finC (n := n) (FI := FI) (FL := FL) (FR := FR) (AI := AI) (AL := AL) (G := G2) (k := 0) hS3 hI5 (fun q hq => ⟨fun g => ⟨by rw [f5' q (by omega) (by omega) (by omega), (b2 q (by omega) (by omega)).1]; exact mj_u2_2 (by omega), (b2 q (by omega) (by omega)).2.1 g, by rw [r3 g q (by omega) (by omega), ← hR2]; exact mj_u2_2 (by omega)⟩, (b2 q (by omega) (by omega)).2.2.1, (b2 q (by omega) (by omega)).2.2.2⟩) (by decide)
      exact hQ _ fn.1 fn.2
  · simp only [tl_some, e100_0, e100_1, e100_4, e100_5, e100_6, e100_9, e100_12, e100_13, e100_14, e100_17, e100_18, e100_19, e100_20, e100_23, e100_24, e100_25, e100_28, e100_29, e100_32, e100_33, e100_36, e100_39, e100_40, e100_43, e100_46, e100_47, e100_48, e100_51, e100_54, e100_57, e100_58, e100_59, e100_62, e100_63, e100_64, e100_65, e100_68, e100_69, e100_72, e100_75, e100_78, e100_79, e100_82, e100_85, e100_86, e100_89, e100_92, e100_93, e100_94, e100_97, e100_100, e100_103, e100_106]
    exact bad (fun q => z2 q.2)
end
