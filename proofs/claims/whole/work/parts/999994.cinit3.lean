/-! ## the class is made whole -/
def P_0 : PG := (fun _ => 0, 0, none, 0, 0, 0)
/-- a Shelf is made: what the machine says of it -/
def ShMk (sa : Nat → Nat) : Prop := ∀ (d n a R : Nat) (Q : mj_Q) (K : Nat → Nat × Nat) (FI : Nat → Nat → Int32) (FL : Nat → Nat → Int64) (FR : Nat → Nat → Option Nat) (AI : Nat → Nat → Int32) (AL : Nat → Nat → Int64) (AR : Nat → Nat → Option Nat), (R = 12 ∨ R = 3) → K a = (1, 3) → (∀ (e : Nat) (g : Nat → Nat), (n ≤ e ∧ e ≤ n + R) → (∀ i, i < R → n ≤ g i ∧ g i ≤ n + R ∧ g i ≠ e) → (∀ i j, i < R → j < R → g i = g j → i = j) → Q none (n + R + 1, shK n R e K, FI, FL, mj_u2 FR 192 a (some e), shAI n R e AI, AL, shAR R e g AR)) → EV sa (d + 9) 45 [.ref a, .int (nI R)] (n, K, FI, FL, FR, AI, AL, AR) Q
theorem sh_mk (sa : Nat → Nat) : ShMk sa := fun d n a R Q K FI FL FR AI AL AR h1 h2 h3 => Or.inl ⟨by omega, Or.inr (Or.inr ⟨rfl, a, R, h1, rfl, h2, h3⟩)⟩
/-- what lies below stays -/
def Kp (lo x : Nat) (K K' : Nat → Nat × Nat) (FI FI' : Nat → Nat → Int32) (FL FL' : Nat → Nat → Int64) (FR FR' : Nat → Nat → Option Nat) (AI AI' : Nat → Nat → Int32) (AL AL' : Nat → Nat → Int64) (AR AR' : Nat → Nat → Option Nat) : Prop := ∀ c, c < lo → K' c = K c ∧ (∀ f, FI' f c = FI f c) ∧ (∀ f, FL' f c = FL f c) ∧ AI' c = AI c ∧ AL' c = AL c ∧ AR' c = AR c ∧ (c ≠ x → ∀ f, FR' f c = FR f c)
section
variable {sa : Nat → Nat} {d n t h m : Nat} {Q : mj_Q} {K : Nat → Nat × Nat} {FI : Nat → Nat → Int32} {FL : Nat → Nat → Int64} {FR : Nat → Nat → Option Nat} {AI : Nat → Nat → Int32} {AL : Nat → Nat → Int64} {AR : Nat → Nat → Option Nat} {w : Wl} {hs : Nat → Hg}
variable {x lo : Nat}
theorem Kp.trans {lo1 : Nat} {K1 K2 : Nat → Nat × Nat} {F1 F2 A1 A2 : Nat → Nat → Int32} {L1 L2 M1 M2 : Nat → Nat → Int64} {R1 R2 G1 G2 : Nat → Nat → Option Nat} (h1 : Kp lo x K K1 FI F1 FL L1 FR R1 AI A1 AL M1 AR G1) (h : lo ≤ lo1) (h2 : Kp lo1 x K1 K2 F1 F2 L1 L2 R1 R2 A1 A2 M1 M2 G1 G2) : Kp lo x K K2 FI F2 FL L2 FR R2 AI A2 AL M2 AR G2 := fun c hc => by
  obtain ⟨a1, a2, a3, a4, a5, a6, a7⟩ := h1 c hc
  obtain ⟨b1, b2, b3, b4, b5, b6, b7⟩ := h2 c (by omega)
  exact ⟨b1.trans a1, fun f => (b2 f).trans (a2 f), fun f => (b3 f).trans (a3 f), b4.trans a4, b5.trans a5, b6.trans a6, fun z f => (b7 z f).trans (a7 z f)⟩
theorem Kp.mono {lo1 : Nat} {K1 : Nat → Nat × Nat} {F1 A1 : Nat → Nat → Int32} {L1 M1 : Nat → Nat → Int64} {R1 G1 : Nat → Nat → Option Nat} (h1 : Kp lo x K K1 FI F1 FL L1 FR R1 AI A1 AL M1 AR G1) (h : lo1 ≤ lo) : Kp lo1 x K K1 FI F1 FL L1 FR R1 AI A1 AL M1 AR G1 := fun c hc => h1 c (by omega)
/-- a thing made at lo, and put into x -/
theorem Kp.made {v : Nat × Nat} {fl : Nat} {r : Option Nat} {K1 : Nat → Nat × Nat} {F1 A1 : Nat → Nat → Int32} {L1 M1 : Nat → Nat → Int64} {R1 : Nat → Nat → Option Nat} (h1 : ∀ c, c ≤ lo → K1 c = mj_uk K lo v c ∧ (∀ f, F1 f c = mj_zf 0 FI lo f c) ∧ (∀ f, L1 f c = mj_zf 0 FL lo f c) ∧ A1 c = AI c ∧ M1 c = AL c) (h2 : ∀ f c, c < lo → R1 f c = mj_zf none FR lo f c) : Kp lo x K K1 FI F1 FL L1 FR (mj_u2 R1 fl x r) AI A1 AL M1 AR AR ∧ ∀ f, f ≠ fl → x < lo → mj_u2 R1 fl x r f x = FR f x := by
  refine ⟨fun c hc => ?_, fun f hf hx => ?_⟩
  · obtain ⟨a1, a2, a3, a4, a5⟩ := h1 c (by omega)
    exact ⟨by rw [a1, uk_o (by omega)], fun f => by rw [a2, zf_o (by omega)], fun f => by rw [a3, zf_o (by omega)], a4, a5, rfl, fun z f => by rw [mj_u2_2 z, h2 f c hc, zf_o (by omega)]⟩
  · rw [mj_u2_1 hf, h2 f x hx, zf_o (by omega)]
theorem ShelfS.cg {s e R : Nat} {g : Nat → Nat} {K' : Nat → Nat × Nat} {FR' AR' : Nat → Nat → Option Nat} (h : ShelfS K FR AR s e g R) (hc : ∀ c, s ≤ c → c ≤ s + 1 + R → K' c = K c ∧ AR' c = AR c) (hf : FR' 192 s = FR 192 s) (he : s ≤ e ∧ e ≤ s + 1 + R) (hg : ∀ i, i < R → s ≤ g i ∧ g i ≤ s + 1 + R) : ShelfS K' FR' AR' s e g R := by
  obtain ⟨h1, h2, h3, h4, h5, h6, h7⟩ := h
  refine ⟨by rw [(hc s (by omega) (by omega)).1]; exact h1, by rw [hf]; exact h2, by rw [(hc e he.1 he.2).1]; exact h3, h4, h5, fun i hi => ?_, h7⟩
  obtain ⟨g1, g2⟩ := hg i hi
  rw [(hc e he.1 he.2).2, (hc (g i) g1 g2).1]
  exact h6 i hi
theorem TelS0.cg {h : Nat} {K' : Nat → Nat × Nat} {FR' : Nat → Nat → Option Nat} (hT : TelS0 K FR x h) (hh : h = x + 5) (hc : ∀ c, x ≤ c → c ≤ x + 27 → K' c = K c ∧ ∀ f, FR' f c = FR f c) : TelS0 K' FR' x h := by
  subst hh
  obtain ⟨t1, t2, t3, ⟨t4, t5⟩, ⟨t6, t7⟩, t8, t9, t10, t11, t12, t13⟩ := hT
  have kx := hc x (by omega) (by omega)
  refine ⟨by rw [kx.1]; exact t1, by rw [kx.2]; exact t2, by rw [(hc (x + 1) (by omega) (by omega)).1]; exact t3, ⟨by rw [kx.2]; exact t4, by rw [(hc (x + 3) (by omega) (by omega)).1]; exact t5⟩, ⟨by rw [kx.2]; exact t6, by rw [(hc (x + 4) (by omega) (by omega)).1]; exact t7⟩, by rw [kx.2]; exact t8, by rw [kx.2]; exact t9, t10.cg (fun j hj => (hc _ (by omega) (by omega)).1) (hc _ (by omega) (by omega)).2, t11.cg (fun j hj => (hc _ (by omega) (by omega)).1) (hc _ (by omega) (by omega)).2, by rw [(hc (x + 5) (by omega) (by omega)).2]; exact t12, t13⟩
theorem Kp.shelf {R e fl : Nat} {g : Nat → Nat} (hx : x < lo) (hR : R = 12 ∨ R = 3) (j1 : lo + 1 ≤ e ∧ e ≤ lo + 1 + R) (j2 : ∀ i, i < R → lo + 1 ≤ g i ∧ g i ≤ lo + 1 + R ∧ g i ≠ e) (j3 : ∀ i j, i < R → j < R → g i = g j → i = j) (hfl : fl ≠ 192) : Kp lo x K (shK (lo + 1) R e (mj_uk K lo (1, 3))) FI (mj_zf 0 FI lo) FL (mj_zf 0 FL lo) FR (mj_u2 (mj_u2 (mj_zf none FR lo) 192 lo (some e)) fl x (some lo)) AI (shAI (lo + 1) R e AI) AL AL AR (shAR R e g AR) ∧ ShelfS (shK (lo + 1) R e (mj_uk K lo (1, 3))) (mj_u2 (mj_u2 (mj_zf none FR lo) 192 lo (some e)) fl x (some lo)) (shAR R e g AR) lo e g R ∧ ∀ f, f ≠ fl → mj_u2 (mj_u2 (mj_zf none FR lo) 192 lo (some e)) fl x (some lo) f x = FR f x := by
  have ks : ∀ c, c ≤ lo → shK (lo + 1) R e (mj_uk K lo (1, 3)) c = mj_uk K lo (1, 3) c := fun c hc => by unfold shK; rw [if_neg (by omega), if_neg (by omega)]
  refine ⟨fun c hc => ⟨?_, fun f => zf_o (by omega), fun f => zf_o (by omega), ?_, rfl, ?_, fun z f => ?_⟩, ⟨?_, ?_, ?_, by omega, by omega, fun i hi => ⟨?_, ?_⟩, j3⟩, fun f hf => ?_⟩
  · rw [ks c (by omega), uk_o (by omega)]
  · unfold shAI; rw [if_neg (by omega)]
  · unfold shAR; rw [if_neg (by omega)]
  · rw [mj_u2_2 z, mj_u2_2 (by omega), zf_o (by omega)]
  · rw [ks lo (by omega), uk_s]
  · rw [mj_u2_2 (by omega), mj_u2_s]
  · unfold shK; rw [if_pos rfl]
  · unfold shAR; rw [if_pos rfl]; exact if_pos hi
  · obtain ⟨y1, y2, y3⟩ := j2 i hi
    unfold shK; rw [if_neg y3, if_pos ⟨y1, y2⟩]
  · rw [mj_u2_1 hf, mj_u2_2 (by omega), zf_o (by omega)]
theorem c_cinit (al : mj_al 81 = (13, 126)) (al0 : mj_al 0 = (22, 306)) (alk : mj_al 71 = (1, 0)) (alt : mj_al 51 = (27, 334)) (alr : mj_al 30 = (23, 319)) (alo : mj_al 27 = (23, 319)) (als : mj_al 45 = (13, 456)) (alc : mj_al 98 = (128, 3129)) (hS : ShMk sa) (ka : K x = (1, 7)) (hx0 : ∀ f, FI f x = 0) (hQ : ∀ (K' : Nat → Nat × Nat) (FI' : Nat → Nat → Int32) (FL' : Nat → Nat → Int64) (FR' : Nat → Nat → Option Nat) (AI' : Nat → Nat → Int32) (AL' : Nat → Nat → Int64) (AR' : Nat → Nat → Option Nat), InvC x P_0 (x + 120, K', FI', FL', FR', AI', AL', AR') → Kp x x K K' FI FI' FL FL' FR FR' AI AI' AL AL' AR AR' → Q none (x + 120, K', FI', FL', FR', AI', AL', AR')) : EV sa (d + 11) 98 [.ref x] (x + 1, K, FI, FL, FR, AI, AL, AR) Q := by
  have u0 : ∀ (K : Nat → Nat × Nat) (v : Nat × Nat), mj_uk K (x + 1) v x = K x := fun K v => uk_o (by omega)
  refine n98 ka ?_
  simp only [e98_0, e98_1, e98_4, e98_5, e98_8, e98_10, e98_13, e98_14, e98_17, e98_18, alc, al0, u0, ka, Nat.add_assoc, show (900 : Int32).toNatClampNeg = 900 from rfl, show ¬ ((900 : Int32) < 0) from by decide, Nat.reduceAdd, Nat.reduceLeDiff, List.length_nil, Nat.zero_le, Nat.zero_add, not_false_eq_true, and_true, true_and]
  refine ⟨by simp, Or.inr trivial, c_hunginit (a := x + 2) al al0 uk_s fun K1 F1 L1 R1 A1 M1 h1 h2 h3 h4 h5 h6 => ?_⟩
  have k1 : K1 x = (1, 7) := by rw [(h5 x (by omega)).1, uk_o (by omega), u0]; exact ka
  simp only [tl_none, List.nil_append, e98_21, e98_24, e98_25, e98_28, e98_29, alc, alt, k1, Nat.add_assoc, show (3 : Int32).toNatClampNeg = 3 from rfl, show ¬ ((3 : Int32) < 0) from by decide, Nat.reduceAdd, Nat.reduceLeDiff, List.length_nil, Nat.zero_le, Nat.zero_add, not_false_eq_true, and_true, true_and]
  obtain ⟨RA, eRA⟩ : ∃ RA, RA = mj_u2 R1 450 x (some (x + 2)) := ⟨_, rfl⟩
  rw [← eRA]
  refine ⟨by simp, Or.inr trivial, c_telinit (a := x + 25) al al0 alk alt uk_s fun K2 F2 L2 R2 A2 M2 i1 i5 i6 => ?_⟩
  have k2 : K2 x = (1, 7) := by rw [(i5 x (by omega)).1, uk_o (by omega)]; exact k1
  obtain ⟨kB, qB⟩ := Kp.made (lo := x + 25) (x := x) (fl := 451) (r := some (x + 25)) (AR := AR) i5 i6
  simp only [tl_none, List.nil_append, e98_32, e98_35, e98_36, e98_39, e98_40, e98_42, alc, als, k2, Nat.add_assoc, show (3 : Int32).toNatClampNeg = 3 from rfl, show ¬ ((3 : Int32) < 0) from by decide, Nat.reduceAdd, Nat.reduceLeDiff, List.length_nil, Nat.zero_le, Nat.zero_add, not_false_eq_true, and_true, true_and]
  obtain ⟨RB, eRB⟩ : ∃ RB, RB = mj_u2 R2 451 x (some (x + 25)) := ⟨_, rfl⟩
  rw [← eRB] at kB qB ⊢
  have pB : RB 451 x = some (x + 25) := by rw [eRB, mj_u2_s]
  have i1' : TelS0 K2 RB (x + 25) (x + 30) := i1.cg rfl (fun c c1 c2 => ⟨rfl, fun f => by rw [eRB, mj_u2_2 (by omega)]⟩)
  refine ⟨by simp, Or.inr trivial, hS _ (x + 54) (x + 53) 12 _ _ _ _ _ _ _ _ (Or.inl rfl) uk_s fun e3 g3 j1 j2 j3 => ?_⟩
  obtain ⟨kC, sC, qC⟩ := Kp.shelf (lo := x + 53) (x := x) (fl := 452) (K := K2) (FI := F2) (FL := L2) (FR := RB) (AI := A2) (AL := M2) (AR := AR) (by omega) (Or.inl rfl) j1 j2 j3 (by decide)
  have k3 : shK (x + 54) 12 e3 (mj_uk K2 (x + 53) (1, 3)) x = (1, 7) := by rw [(kC x (by omega)).1]; exact k2
  have zC : ∀ f, mj_zf 0 F2 (x + 53) f (x + 53) = 0 := fun f => zf_s
  simp only [tl_none, List.nil_append, e98_45, e98_48, e98_49, e98_52, e98_53, e98_54, alc, als, k3, Nat.add_assoc, show (3 : Int32).toNatClampNeg = 3 from rfl, show ¬ ((3 : Int32) < 0) from by decide, Nat.reduceAdd, Nat.reduceLeDiff, List.length_nil, Nat.zero_le, Nat.zero_add, not_false_eq_true, and_true, true_and]
  generalize shK (x + 54) 12 e3 (mj_uk K2 (x + 53) (1, 3)) = K3 at *
  generalize mj_zf 0 F2 (x + 53) = F3 at *
  generalize mj_zf 0 L2 (x + 53) = L3 at *
  have pC : mj_u2 (mj_u2 (mj_zf none RB (x + 53)) 192 (x + 53) (some e3)) 452 x (some (x + 53)) 452 x = some (x + 53) := mj_u2_s
  generalize mj_u2 (mj_u2 (mj_zf none RB (x + 53)) 192 (x + 53) (some e3)) 452 x (some (x + 53)) = RC at *
  generalize shAI (x + 54) 12 e3 A2 = A3 at *
  generalize shAR 12 e3 g3 AR = G3 at *
  refine ⟨by simp, Or.inr trivial, hS _ (x + 68) (x + 67) 3 _ _ _ _ _ _ _ _ (Or.inr rfl) uk_s fun e4 g4 l1 l2 l3 => ?_⟩
  obtain ⟨kD, sD, qD⟩ := Kp.shelf (lo := x + 67) (x := x) (fl := 453) (K := K3) (FI := F3) (FL := L3) (FR := RC) (AI := A3) (AL := M2) (AR := G3) (by omega) (Or.inr rfl) l1 l2 l3 (by decide)
  have k4 : shK (x + 68) 3 e4 (mj_uk K3 (x + 67) (1, 3)) x = (1, 7) := by rw [(kD x (by omega)).1]; exact k3
  have zD : ∀ f, mj_zf 0 F3 (x + 67) f (x + 67) = 0 := fun f => zf_s
  simp only [tl_none, List.nil_append, e98_57, e98_60, e98_61, e98_64, e98_65, alc, alr, k4, Nat.add_assoc, show (3 : Int32).toNatClampNeg = 3 from rfl, show ¬ ((3 : Int32) < 0) from by decide, Nat.reduceAdd, Nat.reduceLeDiff, List.length_nil, Nat.zero_le, Nat.zero_add, not_false_eq_true, and_true, true_and]
  generalize shK (x + 68) 3 e4 (mj_uk K3 (x + 67) (1, 3)) = K4 at *
  generalize mj_zf 0 F3 (x + 67) = F4 at *
  generalize mj_zf 0 L3 (x + 67) = L4 at *
  have pD : mj_u2 (mj_u2 (mj_zf none RC (x + 67)) 192 (x + 67) (some e4)) 453 x (some (x + 67)) 453 x = some (x + 67) := mj_u2_s
  generalize mj_u2 (mj_u2 (mj_zf none RC (x + 67)) 192 (x + 67) (some e4)) 453 x (some (x + 67)) = RD at *
  generalize shAI (x + 68) 3 e4 A3 = A4 at *
  generalize shAR 3 e4 g4 G3 = G4 at *
  refine ⟨by simp, Or.inr trivial, c_rowinit (a := x + 72) al al0 alr uk_s fun K5 F5 L5 R5 A5 M5 m1 m5 m6 => ?_⟩
  have k5 : K5 x = (1, 7) := by rw [(m5 x (by omega)).1, uk_o (by omega)]; exact k4
  obtain ⟨kE, qE⟩ := Kp.made (lo := x + 72) (x := x) (fl := 454) (r := some (x + 72)) (AR := G4) m5 m6
  simp only [tl_none, List.nil_append, e98_68, e98_71, e98_72, e98_75, e98_76, alc, alo, k5, Nat.add_assoc, show (3 : Int32).toNatClampNeg = 3 from rfl, show ¬ ((3 : Int32) < 0) from by decide, Nat.reduceAdd, Nat.reduceLeDiff, List.length_nil, Nat.zero_le, Nat.zero_add, not_false_eq_true, and_true, true_and]
  have pE : mj_u2 R5 454 x (some (x + 72)) 454 x = some (x + 72) := mj_u2_s
  have oE : ∀ f c, c ≠ x → mj_u2 R5 454 x (some (x + 72)) f c = R5 f c := fun f c h => mj_u2_2 h
  generalize mj_u2 R5 454 x (some (x + 72)) = RE at *
  refine ⟨by simp, Or.inr trivial, c_ordinit (a := x + 96) al al0 alo uk_s fun K6 F6 L6 R6 A6 M6 o1 o5 o6 => ?_⟩
  have k6 : K6 x = (1, 7) := by rw [(o5 x (by omega)).1, uk_o (by omega)]; exact k5
  obtain ⟨kF, qF⟩ := Kp.made (lo := x + 96) (x := x) (fl := 455) (r := some (x + 96)) (AR := G4) o5 o6
  simp only [tl_none, List.nil_append, e98_79, e98_82, k6, true_and]
  have pF : mj_u2 R6 455 x (some (x + 96)) 455 x = some (x + 96) := mj_u2_s
  have oF : ∀ f c, c ≠ x → mj_u2 R6 455 x (some (x + 96)) f c = R6 f c := fun f c h => mj_u2_2 h
  generalize mj_u2 R6 455 x (some (x + 96)) = RF at *
  -- from each stage to the end
  have wD := kE.trans (by omega) kF
  have wC := kD.trans (by omega) wD
  have wB := kC.trans (by omega) wC
  have wA := kB.trans (by omega) wB
  have f0 : ∀ f c, x ≤ c → c ≤ x + 24 → F6 f c = F1 f c := fun f c c1 c2 => (wA c (by omega)).2.1 f
  have fH : ∀ f, F1 f (x + 2) = 0 := fun f => by rw [(h5 (x + 2) (by omega)).2.1 f, zf_s]
  have fX : ∀ f, F1 f x = 0 := fun f => by rw [(h5 x (by omega)).2.1 f, zf_o (by omega)]; exact hx0 f
  have rA : RA 448 x = some (x + 1) := by rw [eRA, mj_u2_1 (by decide), h6 448 x (by omega), zf_o (by omega), mj_u2_s]
  have rA2 : RA 450 x = some (x + 2) := by rw [eRA, mj_u2_s]
  have rAo : ∀ f c, c ≠ x → RA f c = R1 f c := fun f c h => by rw [eRA, mj_u2_2 h]
  have hx53 : ∀ f, F6 f (x + 53) = 0 := fun f => by rw [(wC (x + 53) (by omega)).2.1 f]; exact zC f
  have hx67 : ∀ f, F6 f (x + 67) = 0 := fun f => by rw [(wD (x + 67) (by omega)).2.1 f]; exact zD f
  have hCS : CSt K6 RF G4 x (x + 2) (x + 30) := by
    refine ⟨k6, ⟨?_, ?_⟩, ?_, ?_, ?_, ?_, ?_, pF, Or.inl ⟨rfl, rfl⟩, ⟨h1.cg (fun j hj => (wA _ (by omega)).1) (fun f => ?_), h2.cg (fun j hj => (wA _ (by omega)).1) (fun f => ?_), ?_⟩, i1'.cg rfl (fun c c1 c2 => ⟨(wB c (by omega)).1, (wB c (by omega)).2.2.2.2.2.2 (by omega)⟩), ⟨e3, g3, sC.cg (fun c c1 c2 => ⟨(wC c (by omega)).1, (wC c (by omega)).2.2.2.2.2.1⟩) ((wC (x + 53) (by omega)).2.2.2.2.2.2 (by omega) 192) (by omega) (fun i hi => ?_), fun i hi => ?_⟩, ⟨e4, g4, sD.cg (fun c c1 c2 => ⟨(wD c (by omega)).1, (wD c (by omega)).2.2.2.2.2.1⟩) ((wD (x + 67) (by omega)).2.2.2.2.2.2 (by omega) 192) (by omega) (fun i hi => ?_), fun i hi => ?_⟩, ⟨?_, ?_, m1.2.2.cg (fun j hj => (kF _ (by omega)).1) (fun f => ?_)⟩, ⟨o1.1, ?_, o1.2.2.cg (fun _ _ => rfl) (fun f => oF f _ (by omega))⟩⟩
    · rw [qF 448 (by decide) (by omega), qE 448 (by decide) (by omega), qD 448 (by decide), qC 448 (by decide), qB 448 (by decide) (by omega)]; exact rA
    · rw [(wA (x + 1) (by omega)).1, (h5 (x + 1) (by omega)).1, uk_o (by omega), uk_s]
    · rw [qF 450 (by decide) (by omega), qE 450 (by decide) (by omega), qD 450 (by decide), qC 450 (by decide), qB 450 (by decide) (by omega)]; exact rA2
    · rw [qF 451 (by decide) (by omega), qE 451 (by decide) (by omega), qD 451 (by decide), qC 451 (by decide)]; exact pB
    · rw [qF 452 (by decide) (by omega), qE 452 (by decide) (by omega), qD 452 (by decide)]; exact pC
    · rw [qF 453 (by decide) (by omega), qE 453 (by decide) (by omega)]; exact pD
    · rw [qF 454 (by decide) (by omega)]; exact pE
    · rw [(wA (x + 2) (by omega)).2.2.2.2.2.2 (by omega) f, rAo f _ (by omega)]
    · rw [(wA (x + 2 + 1) (by omega)).2.2.2.2.2.2 (by omega) f, rAo f _ (by omega)]
    · rw [(wA (x + 2) (by omega)).2.2.2.2.2.2 (by omega) 0, rAo 0 _ (by omega)]; exact h3
    · have := j2 i hi; omega
    · have := j2 i hi; omega
    · have := l2 i hi; omega
    · have := l2 i hi; omega
    · rw [(kF (x + 72) (by omega)).1]; exact m1.1
    · rw [(kF (x + 72) (by omega)).2.2.2.2.2.2 (by omega) 128, oE _ _ (by omega)]; exact m1.2.1
    · rw [(kF (x + 72 + 1) (by omega)).2.2.2.2.2.2 (by omega) f, oE _ _ (by omega)]
    · rw [oF _ _ (by omega)]; exact o1.2.1
  have hCI : CInv x (x + 2) P_0 K6 RF G4 F6 A6 M6 := by
    refine ⟨⟨?_, ?_, Nat.zero_le _, ?_, ?_, ?_, Nat.zero_le _, Nat.zero_le _⟩, ⟨⟨?_, ?_, ?_, ?_, ?_, ?_, ?_⟩, fun b hb => absurd hb (Nat.not_lt_zero b), fun b hb => absurd hb (Nat.not_lt_zero b)⟩, ?_, ?_, ?_, ?_, hx53 _, hx67 _, hx53 _, hx67 _⟩
    · rw [(wA (x + 1) (by omega)).2.2.2.1, (h5 (x + 1) (by omega)).2.2.2.1, za_s]; rfl
    · rw [f0 _ _ (by omega) (by omega)]; exact fX _
    · rw [f0 _ _ (by omega) (by omega)]; exact fX _
    · rw [f0 _ _ (by omega) (by omega)]; exact fX _
    · rw [f0 _ _ (by omega) (by omega)]; exact fX _
    · rw [f0 _ _ (by omega) (by omega)]; exact h4 _
    · rw [f0 _ _ (by omega) (by omega)]; exact h4 _
    · rw [f0 _ _ (by omega) (by omega)]; exact h4 _
    · rw [f0 _ _ (by omega) (by omega)]; exact h4 _
    · rw [f0 _ _ (by omega) (by omega)]; exact h4 _
    · rw [f0 _ _ (by omega) (by omega)]; exact h4 _
    · rw [f0 _ _ (by omega) (by omega)]; exact h4 _
    · rw [f0 _ _ (by omega) (by omega)]; exact fH _
    · rw [f0 _ _ (by omega) (by omega)]; exact fH _
    · rw [f0 _ _ (by omega) (by omega)]; exact fH _
    · rw [f0 _ _ (by omega) (by omega)]; exact fH _
  refine hQ K6 F6 L6 RF A6 M6 G4 ⟨x + 2, x + 30, hCS, hCI⟩ ?_
  · refine Kp.trans (lo1 := x + 25) (fun c hc => ⟨?_, fun f => ?_, fun f => ?_, ?_, ?_, rfl, fun z f => ?_⟩) (by omega) wA
    · rw [(h5 c (by omega)).1, uk_o (by omega), uk_o (by omega)]
    · rw [(h5 c (by omega)).2.1 f, zf_o (by omega)]
    · rw [(h5 c (by omega)).2.2.1 f, zf_o (by omega)]
    · rw [(h5 c (by omega)).2.2.2.1, za_o (by omega)]
    · exact (h5 c (by omega)).2.2.2.2
    · rw [rAo f c z, h6 f c (by omega), zf_o (by omega), mj_u2_2 z]
end
