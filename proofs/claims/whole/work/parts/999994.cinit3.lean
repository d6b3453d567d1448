/-! ## the class is made whole -/
def shAI (n R e : Nat) (AI : Nat → Nat → Int32) : Nat → Nat → Int32 := fun c => if n ≤ c ∧ c ≤ n + R ∧ c ≠ e then fun _ => 0 else AI c
def shAR (R e : Nat) (g : Nat → Nat) (AR : Nat → Nat → Option Nat) : Nat → Nat → Option Nat := fun c => if c = e then fun i => if i < R then some (g i) else none else AR c
def shK (n R e : Nat) (K : Nat → Nat × Nat) : Nat → Nat × Nat := fun c => if c = e then (5, R) else if n ≤ c ∧ c ≤ n + R then (2, 37) else K c
def P_0 : PG := (fun _ => 0, 0, none, 0, 0, 0)
/-- a Shelf is made: what the machine says of it -/
def ShMk (sa : Nat → Nat) : Prop := ∀ (d n a R : Nat) (Q : mj_Q) (K : Nat → Nat × Nat) (FI : Nat → Nat → Int32) (FL : Nat → Nat → Int64) (FR : Nat → Nat → Option Nat) (AI : Nat → Nat → Int32) (AL : Nat → Nat → Int64) (AR : Nat → Nat → Option Nat), (R = 12 ∨ R = 3) → K a = (1, 3) → (∀ (e : Nat) (g : Nat → Nat), (n ≤ e ∧ e ≤ n + R) → (∀ i, i < R → n ≤ g i ∧ g i ≤ n + R ∧ g i ≠ e) → (∀ i j, i < R → j < R → g i = g j → i = j) → Q none (n + R + 1, shK n R e K, FI, FL, mj_u2 FR 192 a (some e), shAI n R e AI, AL, shAR R e g AR)) → EV sa (d + 9) 45 [.ref a, .int (nI R)] (n, K, FI, FL, FR, AI, AL, AR) Q
/-- what lies below stays -/
def Kp (lo x : Nat) (K K' : Nat → Nat × Nat) (FI FI' : Nat → Nat → Int32) (FL FL' : Nat → Nat → Int64) (FR FR' : Nat → Nat → Option Nat) (AI AI' : Nat → Nat → Int32) (AL AL' : Nat → Nat → Int64) (AR AR' : Nat → Nat → Option Nat) : Prop := ∀ c, c < lo → K' c = K c ∧ (∀ f, FI' f c = FI f c) ∧ (∀ f, FL' f c = FL f c) ∧ AI' c = AI c ∧ AL' c = AL c ∧ AR' c = AR c ∧ (c ≠ x → ∀ f, FR' f c = FR f c)
section
variable {sa : Nat → Nat} {d n t h m : Nat} {Q : mj_Q} {K : Nat → Nat × Nat} {FI : Nat → Nat → Int32} {FL : Nat → Nat → Int64} {FR : Nat → Nat → Option Nat} {AI : Nat → Nat → Int32} {AL : Nat → Nat → Int64} {AR : Nat → Nat → Option Nat} {w : Wl} {hs : Nat → Hg}
variable {x lo : Nat}
theorem Kp.trans {lo1 : Nat} {K1 K2 : Nat → Nat × Nat} {F1 F2 A1 A2 : Nat → Nat → Int32} {L1 L2 M1 M2 : Nat → Nat → Int64} {R1 R2 G1 G2 : Nat → Nat → Option Nat} (h1 : Kp lo x K K1 FI F1 FL L1 FR R1 AI A1 AL M1 AR G1) (h : lo ≤ lo1) (h2 : Kp lo1 x K1 K2 F1 F2 L1 L2 R1 R2 A1 A2 M1 M2 G1 G2) : Kp lo x K K2 FI F2 FL L2 FR R2 AI A2 AL M2 AR G2 := fun c hc => by
  obtain ⟨a1, a2, a3, a4, a5, a6, a7⟩ := h1 c hc
  obtain ⟨b1, b2, b3, b4, b5, b6, b7⟩ := h2 c (by omega)
  exact ⟨b1.trans a1, fun f => (b2 f).trans (a2 f), fun f => (b3 f).trans (a3 f), b4.trans a4, b5.trans a5, b6.trans a6, fun z f => (b7 z f).trans (a7 z f)⟩
theorem Kp.mono {lo1 : Nat} {K1 : Nat → Nat × Nat} {F1 A1 : Nat → Nat → Int32} {L1 M1 : Nat → Nat → Int64} {R1 G1 : Nat → Nat → Option Nat} (h1 : Kp lo x K K1 FI F1 FL L1 FR R1 AI A1 AL M1 AR G1) (h : lo1 ≤ lo) : Kp lo1 x K K1 FI F1 FL L1 FR R1 AI A1 AL M1 AR G1 := fun c hc => h1 c (by omega)
/-- a thing made at lo, and put into x -/
theorem Kp.made {v : Nat × Nat} {fl : Nat} {r : Option Nat} {K1 : Nat → Nat × Nat} {F1 A1 : Nat → Nat → Int32} {L1 M1 : Nat → Nat → Int64} {R1 : Nat → Nat → Option Nat} (h1 : ∀ c, c ≤ lo → K1 c = mj_uk K lo v c ∧ (∀ f, F1 f c = mj_zf 0 FI lo f c) ∧ (∀ f, L1 f c = mj_zf 0 FL lo f c) ∧ A1 c = AI c ∧ M1 c = AL c) (h2 : ∀ f c, c < lo → R1 f c = mj_zf none FR lo f c) : Kp lo x K K1 FI F1 FL L1 FR (mj_u2 R1 fl x r) AI A1 AL M1 AR AR ∧ ∀ f, f ≠ fl → x < lo → mj_u2 R1 fl x r f x = FR f x := by
  refine ⟨fun c hc => ?_, fun f hf hx => ?_⟩
  · obtain ⟨a1, a2, a3, a4, a5⟩ := h1 c (by omega)
    exact ⟨by rw [a1, uk_o (by omega)], fun f => by rw [a2, zf_o (by omega)], fun f => by rw [a3, zf_o (by omega)], a4, a5, rfl, fun z f => by rw [mj_u2_2 z, h2 f c hc, zf_o (by omega)]⟩
  · rw [mj_u2_1 hf, h2 f x hx, zf_o (by omega)]
theorem c_cinit (al : mj_al 81 = (13, 126)) (al0 : mj_al 0 = (22, 306)) (alk : mj_al 71 = (1, 0)) (alt : mj_al 51 = (27, 334)) (alr : mj_al 30 = (23, 319)) (alo : mj_al 27 = (23, 319)) (als : mj_al 45 = (13, 456)) (alc : mj_al 98 = (128, 3129)) (hS : ShMk sa) (ka : K x = (1, 7)) (hx0 : ∀ f, FI f x = 0) (hQ : ∀ (K' : Nat → Nat × Nat) (FI' : Nat → Nat → Int32) (FL' : Nat → Nat → Int64) (FR' : Nat → Nat → Option Nat) (AI' : Nat → Nat → Int32) (AL' : Nat → Nat → Int64) (AR' : Nat → Nat → Option Nat), InvC x P_0 (x + 120, K', FI', FL', FR', AI', AL', AR') → Kp x x K K' FI FI' FL FL' FR FR' AI AI' AL AL' AR AR' → Q none (x + 120, K', FI', FL', FR', AI', AL', AR')) : EV sa (d + 11) 98 [.ref x] (x + 1, K, FI, FL, FR, AI, AL, AR) Q := by
  have u0 : ∀ (K : Nat → Nat × Nat) (v : Nat × Nat), mj_uk K (x + 1) v x = K x := fun K v => uk_o (by omega)
  refine n98 ka ?_
  simp only [e98_0, e98_1, e98_4, e98_5, e98_8, e98_10, e98_13, e98_14, e98_17, e98_18, alc, al0, u0, ka, Nat.add_assoc, show (900 : Int32).toNatClampNeg = 900 from rfl, show ¬ ((900 : Int32) < 0) from by decide, Nat.reduceAdd, Nat.reduceLeDiff, List.length_nil, Nat.zero_le, Nat.zero_add, not_false_eq_true, and_true, true_and]
  refine ⟨by simp, Or.inr trivial, c_hunginit (a := x + 2) al al0 uk_s fun K1 F1 L1 R1 A1 M1 h1 h2 h3 h4 h5 h6 => ?_⟩
  have k1 : K1 x = (1, 7) := by rw [(h5 x (by omega)).1, uk_o (by omega), u0]; exact ka
  simp only [tl_none, List.nil_append, e98_21, e98_24, e98_25, e98_28, e98_29, alc, alt, k1, Nat.add_assoc, show (3 : Int32).toNatClampNeg = 3 from rfl, show ¬ ((3 : Int32) < 0) from by decide, Nat.reduceAdd, Nat.reduceLeDiff, List.length_nil, Nat.zero_le, Nat.zero_add, not_false_eq_true, and_true, true_and]
  refine ⟨by simp, Or.inr trivial, c_telinit (a := x + 25) al al0 alk alt uk_s fun K2 F2 L2 R2 A2 M2 i1 i5 i6 => ?_⟩
  have k2 : K2 x = (1, 7) := by rw [(i5 x (by omega)).1, uk_o (by omega)]; exact k1
  simp only [tl_none, List.nil_append, e98_32, e98_35, e98_36, e98_39, e98_40, e98_42, alc, als, k2, Nat.add_assoc, show (3 : Int32).toNatClampNeg = 3 from rfl, show ¬ ((3 : Int32) < 0) from by decide, Nat.reduceAdd, Nat.reduceLeDiff, List.length_nil, Nat.zero_le, Nat.zero_add, not_false_eq_true, and_true, true_and]
  refine ⟨by simp, Or.inr trivial, hS _ (x + 54) (x + 53) 12 _ _ _ _ _ _ _ _ (Or.inl rfl) uk_s fun e3 g3 j1 j2 j3 => ?_⟩
  exact (0 : Nat)
end
