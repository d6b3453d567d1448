def E_0 : Nat → StK := fun _ => (fun _ => (0, 0, 0, 0), 0, fun _ => 0, fun _ => 0)
def WSof (S : PS) : WS := (sW S, (sHs S, sM S, fun r => nI (sSh S r), fun _ => 0), (E_0, 0), (E_0, 0))
def sp_wall (P : PG) (k : Int32) : Int32 × PG := if 0 ≤ k ∧ k ≤ nI (gZ P) then (match pText (gT P) k.toNatClampNeg with
  | .inl e => (-1, (gT P, 0, gW P, 4, e.1, e.2))
  | .inr S => (nI (wNB (sW S)), (gT P, 0, some (WSof S), 0, 0, gFa P))) else (-1, setTr P 2)
section
variable {sa : Nat → Nat} {d n t h m : Nat} {Q : mj_Q} {K : Nat → Nat × Nat} {FI : Nat → Nat → Int32} {FL : Nat → Nat → Int64} {FR : Nat → Nat → Option Nat} {AI : Nat → Nat → Int32} {AL : Nat → Nat → Int64} {AR : Nat → Nat → Option Nat} {w : Wl} {hs : Nat → Hg}
variable {x o : Nat} {P : PG}
theorem HC.blk {FR' : Nat → Nat → Option Nat} {FI' AI' : Nat → Nat → Int32} {AL' : Nat → Nat → Int64} (hC : HC K FR FI AI AL o (o + 1) w hs m) (hF : ∀ a, o ≤ a → a ≤ o + 22 → (∀ f, FI' f a = FI f a) ∧ AI' a = AI a ∧ AL' a = AL a ∧ ∀ k, FR' k a = FR k a) : HC K FR' FI' AI' AL' o (o + 1) w hs m := by
  obtain ⟨hH, hT, ht, hw, hTR, ⟨r1, r2, r3, r4, r5⟩, hL, sep⟩ := hC
  have fh : ∀ f, FI' f o = FI f o := (hF o (by omega) (by omega)).1
  have ft : ∀ f, FI' f (o + 1) = FI f (o + 1) := (hF (o + 1) (by omega) (by omega)).1
  have rh : ∀ f, FR' f o = FR f o := (hF o (by omega) (by omega)).2.2.2
  have rt : ∀ f, FR' f (o + 1) = FR f (o + 1) := (hF (o + 1) (by omega) (by omega)).2.2.2
  have ah : ∀ j, j ≤ 22 → AI' (o + j) = AI (o + j) := fun j hj => (hF (o + j) (by omega) (by omega)).2.1
  have at' : ∀ j, j ≤ 13 → AI' (o + 1 + j) = AI (o + 1 + j) := fun j hj => (hF (o + 1 + j) (by omega) (by omega)).2.1
  have lt' : ∀ j, j ≤ 13 → AL' (o + 1 + j) = AL (o + 1 + j) := fun j hj => (hF (o + 1 + j) (by omega) (by omega)).2.2.1
  have lh : AL' (o + 22) = AL (o + 22) := (hF (o + 22) (by omega) (by omega)).2.2.1
  refine ⟨?_, ?_, by rw [rh]; exact ht, hw, ?_, ⟨by rw [fh]; exact r1, r2, by rw [fh]; exact r3, by rw [fh]; exact r4, ?_⟩, ?_, sep⟩
  · unfold HungS at hH ⊢
    simp only [rh]
    exact hH
  · unfold ToldS at hT ⊢
    simp only [rt]
    exact hT
  · obtain ⟨a1, a2, a3, a4⟩ := hTR
    refine ⟨by simp only [ft]; exact a1, ?_, ?_, ?_⟩
    · simp only [at' 1 (by omega), at' 2 (by omega), at' 3 (by omega), at' 4 (by omega), at' 5 (by omega), at' 6 (by omega), lt' 7 (by omega), lt' 8 (by omega)]
      exact a2
    · simp only [at' 11 (by omega), lt' 9 (by omega), lt' 10 (by omega)]
      exact a3
    · simp only [at' 12 (by omega), at' 13 (by omega)]
      exact a4
  · simp only [ah 15 (by omega), ah 16 (by omega), ah 17 (by omega), ah 18 (by omega), ah 19 (by omega)]
    exact r5
  · unfold LetR at hL ⊢
    rw [fh, lh]
    exact hL
/-- what hangs and what is kept stay; the rest of the class may change -/
theorem CInv.keep {P' : PG} {FR' : Nat → Nat → Option Nat} {FI' AI' : Nat → Nat → Int32} {AL' : Nat → Nat → Int64} (hI : CInv x o P K FR AR FI AI AL) (hS : CSt K FR AR x o h) (eW : gW P' = gW P) (hb : AI' (x + 1) = gT P' ∧ FI' 449 x = nI (gZ P') ∧ gZ P' ≤ 900 ∧ FI' 456 x = nI (gTr P') ∧ FI' 457 x = nI (gFl P') ∧ FI' 458 x = nI (gFa P') ∧ gTr P' ≤ 7 ∧ gFl P' ≤ 7) (hF : ∀ a, (o ≤ a ∧ a ≤ o + 22 ∨ x + 53 ≤ a ∧ a ≤ x + 71) → (∀ f, FI' f a = FI f a) ∧ AI' a = AI a ∧ AL' a = AL a ∧ ∀ k, FR' k a = FR k a) : CInv x o P' K FR' AR FI' AI' AL' := by
  refine ⟨hb, ?_⟩
  obtain ⟨-, hh⟩ := hI
  obtain ⟨-, -, -, -, -, -, -, -, -, -, -, ⟨e1, g1, s1, s1'⟩, ⟨e2, g2, s2, s2'⟩, -, -⟩ := hS
  have fo : ∀ f, FI' f o = FI f o := (hF o (Or.inl ⟨by omega, by omega⟩)).1
  have fs : ∀ f, FI' f (x + 53) = FI f (x + 53) := (hF (x + 53) (Or.inr ⟨by omega, by omega⟩)).1
  have fm : ∀ f, FI' f (x + 67) = FI f (x + 67) := (hF (x + 67) (Or.inr ⟨by omega, by omega⟩)).1
  rw [eW]
  cases e : gW P with
  | none =>
    rw [e] at hh
    obtain ⟨b1, b2, b3, b4, b5, b6, b7, b8, b9⟩ := hh
    have ft : ∀ f, FI' f (o + 1) = FI f (o + 1) := (hF (o + 1) (Or.inl ⟨by omega, by omega⟩)).1
    exact ⟨⟨by simp only [ft]; exact b1.1, fun b hb => absurd hb (Nat.not_lt_zero b), fun b hb => absurd hb (Nat.not_lt_zero b)⟩, by rw [fo]; exact b2, by rw [fo]; exact b3, by rw [fo]; exact b4, by rw [fo]; exact b5, by rw [fs]; exact b6, by rw [fm]; exact b7, by rw [fs]; exact b8, by rw [fm]; exact b9⟩
  | some s =>
    rw [e] at hh
    obtain ⟨c1, c2, c3, c4, c5⟩ := hh
    have t1 : ShelfS K FR' AR (x + 53) e1 g1 12 := (ShelfS.fr fun k => (hF (x + 53) (Or.inr ⟨by omega, by omega⟩)).2.2.2 k).mpr s1
    have t2 : ShelfS K FR' AR (x + 67) e2 g2 3 := (ShelfS.fr fun k => (hF (x + 67) (Or.inr ⟨by omega, by omega⟩)).2.2.2 k).mpr s2
    have d4 := c4.fr (FI' := FI') (AI' := AI') s1 (fs _) (fs _) (fun i hi => by have := s1' i hi; exact (hF _ (Or.inr ⟨by omega, by omega⟩)).2.1)
    have d5 := c5.fr (FI' := FI') (AI' := AI') s2 (fm _) (fm _) (fun i hi => by have := s2' i hi; exact (hF _ (Or.inr ⟨by omega, by omega⟩)).2.1)
    refine ⟨c1.blk fun a h1 h2 => hF a (Or.inl ⟨h1, h2⟩), fun r hr => ?_, c3, ShV.of t1 (d4.1 _ _ s1) d4.2, ShV.of t2 (d5.1 _ _ s2) d5.2⟩
    rw [(hF (o + 20) (Or.inl ⟨by omega, by omega⟩)).2.1, (hF (o + 21) (Or.inl ⟨by omega, by omega⟩)).2.1]
    exact c2 r hr
end
section
variable {sa : Nat → Nat} {d n t h m : Nat} {Q : mj_Q} {K : Nat → Nat × Nat} {FI : Nat → Nat → Int32} {FL : Nat → Nat → Int64} {FR : Nat → Nat → Option Nat} {AI : Nat → Nat → Int32} {AL : Nat → Nat → Int64} {AR : Nat → Nat → Option Nat} {w : Wl} {hs : Nat → Hg}
variable {x : Nat} {P : PG}
theorem c_fault (hV : InvC x P (n, K, FI, FL, FR, AI, AL, AR)) (hQ : Q (some (.int (nI (gFl P)))) (n, K, FI, FL, FR, AI, AL, AR)) : EV sa (d + 1) 101 [.ref x] (n, K, FI, FL, FR, AI, AL, AR) Q := by
  obtain ⟨o, h, hS, hI⟩ := hV
  replace hS : CSt K FR AR x o h := hS
  replace hI : CInv x o P K FR AR FI AI AL := hI
  have k0 := hS.1
  refine n101 k0 ?_
  simp only [e101_0, e101_1, e101_4, k0, hI.1.2.2.2.2.1, true_and]
  exact hQ
theorem c_trouble (hV : InvC x P (n, K, FI, FL, FR, AI, AL, AR)) (hQ : Q (some (.int (nI (gTr P)))) (n, K, FI, FL, FR, AI, AL, AR)) : EV sa (d + 1) 141 [.ref x] (n, K, FI, FL, FR, AI, AL, AR) Q := by
  obtain ⟨o, h, hS, hI⟩ := hV
  replace hS : CSt K FR AR x o h := hS
  replace hI : CInv x o P K FR AR FI AI AL := hI
  have k0 := hS.1
  refine n141 k0 ?_
  simp only [e141_0, e141_1, e141_4, k0, hI.1.2.2.2.1, true_and]
  exact hQ
def sp_where (P : PG) : Int32 := if gTr P = 4 then nI (gFa P) else -1
theorem c_where (hV : InvC x P (n, K, FI, FL, FR, AI, AL, AR)) (hQ : Q (some (.int (sp_where P))) (n, K, FI, FL, FR, AI, AL, AR)) : EV sa (d + 1) 102 [.ref x] (n, K, FI, FL, FR, AI, AL, AR) Q := by
  obtain ⟨o, h, hS, hI⟩ := hV
  replace hS : CSt K FR AR x o h := hS
  replace hI : CInv x o P K FR AR FI AI AL := hI
  have k0 := hS.1
  obtain ⟨-, -, -, a4, -, a6, a7, -⟩ := hI.1
  have e4 : (nI (gTr P) = 4) ↔ gTr P = 4 := by rw [show (4 : Int32) = nI 4 from rfl, nI_eq (by omega) (by decide)]
  unfold sp_where at hQ
  refine n102 k0 ?_
  simp only [e102_0, e102_1, e102_4, e102_5, e102_8, e102_9, e102_12, e102_15, e102_16, k0, a4, a6, e4, true_and]
  refine ⟨fun z => ?_, fun z => ?_⟩
  · rw [if_neg z] at hQ; exact hQ
  · rw [if_pos (by simpa using z)] at hQ; exact hQ
theorem c_feed (hV : InvC x P (n, K, FI, FL, FR, AI, AL, AR)) {a b c e f : Int32} (hQ : ∀ μ', InvC x (sp_feed P a b c e f).2 μ' → FrC x (n, K, FI, FL, FR, AI, AL, AR) μ' → Q (some (.int (sp_feed P a b c e f).1)) μ') : EV sa (d + 2) 99 [.ref x, .int a, .int b, .int c, .int e, .int f] (n, K, FI, FL, FR, AI, AL, AR) Q := by
  obtain ⟨o, h, hS, hI⟩ := hV
  replace hS : CSt K FR AR x o h := hS
  replace hI : CInv x o P K FR AR FI AI AL := hI
  have k0 := hS.1
  have hno := hS.now
  obtain ⟨a1, a2, a3, a4, a5, a6, a7, a8⟩ := id hI.1
  refine n99 k0 ?_
  simp only [e99_0, e99_1, e99_4, e99_6, e99_7, e99_10, e99_13, e99_14, e99_15, e99_16, e99_17, e99_20, e99_21, e99_22, e99_25, e99_26, e99_27, e99_30, e99_31, e99_33, e99_36, e99_37, e99_39, e99_42, e99_43, e99_46, k0, a2, show (20 : Int32) = nI 20 from rfl, nI_add, true_and]
  unfold sp_feed at hQ
  refine ⟨fun z => ⟨by simp, ?_⟩, fun z => ?_⟩
  · have z' : gZ P + 20 ≤ 900 := (nI_leI (b := 900) (by omega) (by decide)).mp z
    rw [if_pos z'] at hQ
    refine c_takeFour hS a2 (by omega) fun F1 A1 b1 b2 b3 b4 => ?_
    simp only [tl_none, e99_0, e99_1, e99_4, e99_6, e99_7, e99_10, e99_13, e99_14, e99_15, e99_16, e99_17, e99_20, e99_21, e99_22, e99_25, e99_26, e99_27, e99_30, e99_31, e99_33, e99_36, e99_37, e99_39, e99_42, e99_43, e99_46]
    refine ⟨by simp, c_takeFour hS b1 (by omega) fun F2 A2 c1 c2 c3 c4 => ?_⟩
    simp only [tl_none, e99_0, e99_1, e99_4, e99_6, e99_7, e99_10, e99_13, e99_14, e99_15, e99_16, e99_17, e99_20, e99_21, e99_22, e99_25, e99_26, e99_27, e99_30, e99_31, e99_33, e99_36, e99_37, e99_39, e99_42, e99_43, e99_46]
    refine ⟨by simp, c_takeFour hS c1 (by omega) fun F3 A3 d1 d2 d3 d4 => ?_⟩
    simp only [tl_none, e99_0, e99_1, e99_4, e99_6, e99_7, e99_10, e99_13, e99_14, e99_15, e99_16, e99_17, e99_20, e99_21, e99_22, e99_25, e99_26, e99_27, e99_30, e99_31, e99_33, e99_36, e99_37, e99_39, e99_42, e99_43, e99_46]
    refine ⟨by simp, c_takeFour hS d1 (by omega) fun F4 A4 e1 e2 e3 e4 => ?_⟩
    simp only [tl_none, e99_0, e99_1, e99_4, e99_6, e99_7, e99_10, e99_13, e99_14, e99_15, e99_16, e99_17, e99_20, e99_21, e99_22, e99_25, e99_26, e99_27, e99_30, e99_31, e99_33, e99_36, e99_37, e99_39, e99_42, e99_43, e99_46]
    refine ⟨by simp, c_takeFour hS e1 (by omega) fun F5 A5 f1 f2 f3 f4 => ?_⟩
    have fx := (((b3.same c3).same d3).same e3).same f3
    have ax := (((b4.trans c4).trans d4).trans e4).trans f4
    simp only [tl_none, e99_0, e99_1, e99_4, e99_6, e99_7, e99_10, e99_13, e99_14, e99_15, e99_16, e99_17, e99_20, e99_21, e99_22, e99_25, e99_26, e99_27, e99_30, e99_31, e99_33, e99_36, e99_37, e99_39, e99_42, e99_43, e99_46, k0, f1, true_and]
    rw [show gZ P + 4 + 4 + 4 + 4 + 4 = gZ P + 20 by omega]
    refine hQ _ ⟨o, h, hS, CInv.keep hI hS rfl ⟨?_, ?_, z', ?_, ?_, ?_, a7, a8⟩ (fun q hq => ⟨fun g => fx g q (Or.inl (by omega)), ax q (by omega), rfl, fun _ => rfl⟩)⟩ ⟨rfl, rfl, rfl, fun q hq => ⟨fun g => ⟨fx g q (Or.inl (by omega)), rfl, rfl⟩, ax q (by omega), rfl⟩⟩
    · show A5 (x + 1) = _
      rw [f2, e2, d2, c2, b2, a1]
      rfl
    · show F5 449 x = nI (gZ P + 20)
      rw [f1]
    · show F5 456 x = _
      rw [fx 456 x (Or.inr (by simp))]; exact a4
    · show F5 457 x = _
      rw [fx 457 x (Or.inr (by simp))]; exact a5
    · show F5 458 x = _
      rw [fx 458 x (Or.inr (by simp))]; exact a6
  · rw [if_neg (fun q => z (nI_le (b := 900) q (by decide)))] at hQ
    exact hQ _ ⟨o, h, hS, hI⟩ FrC.rfl'
end
