section
variable {sa : Nat → Nat} {d n t h m : Nat} {Q : mj_Q} {K : Nat → Nat × Nat} {FI : Nat → Nat → Int32} {FL : Nat → Nat → Int64} {FR : Nat → Nat → Option Nat} {AI : Nat → Nat → Int32} {AL : Nat → Nat → Int64} {AR : Nat → Nat → Option Nat} {w : Wl} {hs : Nat → Hg}
variable {x o : Nat} {P : PG}
theorem ShelfS.fr {FR' : Nat → Nat → Option Nat} {s e R : Nat} {g : Nat → Nat} (ee : ∀ k, FR' k s = FR k s) : ShelfS K FR' AR s e g R ↔ ShelfS K FR AR s e g R := by
  unfold ShelfS
  rw [ee]
theorem CSt.fr {FR' : Nat → Nat → Option Nat} (hS : CSt K FR AR x o h) (ee : ∀ k a, a < x + 72 → FR' k a = FR k a) (hR : RowS K FR' (x + 72)) (hO : OrdS K FR' (x + 96)) : CSt K FR' AR x o h := by
  obtain ⟨k0, ⟨f1, k1⟩, f2, f3, f4, f5, f6, f7, hoh, ⟨hH, hT, ht⟩, hTe, ⟨e1, g1, s1, s1'⟩, ⟨e2, g2, s2, s2'⟩, -, -⟩ := hS
  have eo : ∀ k, FR' k o = FR k o := fun k => ee k o (by omega)
  have eo1 : ∀ k, FR' k (o + 1) = FR k (o + 1) := fun k => ee k (o + 1) (by omega)
  have eh : ∀ k, FR' k h = FR k h := fun k => ee k h (by omega)
  have eh1 : ∀ k, FR' k (h + 1) = FR k (h + 1) := fun k => ee k (h + 1) (by omega)
  have et : ∀ k, FR' k (x + 25) = FR k (x + 25) := fun k => ee k (x + 25) (by omega)
  have ex' : ∀ k, FR' k x = FR k x := fun k => ee k x (by omega)
  refine ⟨k0, ⟨by rw [ex']; exact f1, k1⟩, by rw [ex']; exact f2, by rw [ex']; exact f3, by rw [ex']; exact f4, by rw [ex']; exact f5, by rw [ex']; exact f6, by rw [ex']; exact f7, hoh, ⟨?_, ?_, by rw [eo]; exact ht⟩, ?_, ⟨e1, g1, (ShelfS.fr fun k => ee k _ (by omega)).mpr s1, s1'⟩, ⟨e2, g2, (ShelfS.fr fun k => ee k _ (by omega)).mpr s2, s2'⟩, hR, hO⟩
  · unfold HungS at hH ⊢
    simp only [eo]
    exact hH
  · unfold ToldS at hT ⊢
    simp only [eo1]
    exact hT
  · unfold TelS0 HungS ToldS at hTe ⊢
    simp only [et, eh, eh1]
    exact hTe
/-- after a question the same state stands -/
theorem CInv.qx {FR' : Nat → Nat → Option Nat} {FI' AI' : Nat → Nat → Int32} {AL' : Nat → Nat → Int64} {s : WS} (hI : CInv x o P K FR AR FI AI AL) (hS : CSt K FR AR x o h) (e : gW P = some s) (hC : HC K FR' FI' AI' AL' o (o + 1) s.1 s.2.1.1 s.2.1.2.1) (hX : QX (x + 72) (x + 119) o FI FI' AI AI' AL AL') (ee : ∀ k a, a < x + 72 → FR' k a = FR k a) : CInv x o P K FR' AR FI' AI' AL' := by
  have ho := hS.now
  obtain ⟨⟨a1, a2, a3, a4, a5, a6, a7⟩, hh⟩ := hI
  have fx : ∀ a, a < x + 72 → a ≠ o → ∀ f, FI' f a = FI f a := fun a ha hn f => (hX a (by omega)).1 f (fun z => absurd z hn)
  have ax : ∀ a, a < x + 72 → AI' a = AI a := fun a ha => (hX a (by omega)).2.1
  refine ⟨⟨by rw [ax _ (by omega)]; exact a1, by rw [fx x (by omega) (by omega)]; exact a2, a3, by rw [fx x (by omega) (by omega)]; exact a4, by rw [fx x (by omega) (by omega)]; exact a5, by rw [fx x (by omega) (by omega)]; exact a6, a7⟩, ?_⟩
  rw [e] at hh ⊢
  obtain ⟨b1, b2, b3, ⟨b4, b4'⟩, b5, b5'⟩ := hh
  obtain ⟨-, -, -, -, -, -, -, -, -, -, -, ⟨e1, g1, s1, s1'⟩, ⟨e2, g2, s2, s2'⟩, -, -⟩ := hS
  have shv : ∀ sh R E, sh < x + 72 → sh ≠ o → (∀ e g, ShelfS K FR AR sh e g R → ShelfR FI AI sh g R s.1 E.1 E.2) → (∃ e0 g0, ShelfS K FR AR sh e0 g0 R ∧ ∀ i, i < R → g0 i < x + 72) → ∀ e g, ShelfS K FR' AR sh e g R → ShelfR FI' AI' sh g R s.1 (E : (Nat → StK) × Nat).1 E.2 := by
    intro sh R E h1 h2 h3 h4 e g hs
    have hs' := (ShelfS.fr fun k => ee k sh h1).mp hs
    obtain ⟨e0, g0, q1, q2⟩ := h4
    have ege : e0 = e := by have z1 := q1.2.1; have z2 := hs'.2.1; rw [z1] at z2; exact Option.some.inj z2
    subst ege
    have egg : ∀ i, i < R → g i = g0 i := fun i hi => by
      have z1 := (q1.2.2.2.2.2.1 i hi).1
      have z2 := (hs'.2.2.2.2.2.1 i hi).1
      rw [z1] at z2
      exact (Option.some.inj z2).symm
    obtain ⟨c1, c2, old, c3, c4, c5⟩ := h3 _ g hs'
    have hR0 := hs'.2.2.2.1
    refine ⟨c1, by rw [fx sh h1 h2]; exact c2, old, c3, by rw [fx sh h1 h2]; exact c4, fun i hi => ?_⟩
    have hm : (old + i) % R < R := Nat.mod_lt _ hR0
    rw [ax _ (by rw [egg _ hm]; exact q2 _ hm)]
    exact c5 i hi
  refine ⟨hC, ?_, b3, ⟨shv (x + 53) 12 s.2.2.1 (by omega) (by omega) b4 ⟨e1, g1, s1, fun i hi => by have := s1' i hi; omega⟩, b4'⟩, shv (x + 67) 3 s.2.2.2 (by omega) (by omega) b5 ⟨e2, g2, s2, fun i hi => by have := s2' i hi; omega⟩, b5'⟩
  intro r hr
  rw [ax _ (by omega), ax _ (by omega)]
  exact b2 r hr
theorem FrC.rfl' {μ : mj_M} : FrC x μ μ := ⟨rfl, rfl, rfl, fun _ _ => ⟨fun _ => ⟨rfl, rfl, rfl⟩, rfl, rfl⟩⟩
/-- the end of a call that answers or refuses -/
theorem finC {F A : Nat → Nat → Int32} {L G : Nat → Nat → Int64} {R : Nat → Nat → Option Nat} (hS : CSt K R AR x o h) (hI : CInv x o P K R AR F A L) (hX : ∀ a, (a < x ∨ x + 119 < a) → (∀ f, F f a = FI f a ∧ G f a = FL f a ∧ R f a = FR f a) ∧ A a = AI a ∧ L a = AL a) {k : Nat} (hk : k ≤ 7) : InvC x (setTr P k) (n, K, mj_u2 F 456 x (nI k), G, R, A, L, AR) ∧ FrC x (n, K, FI, FL, FR, AI, AL, AR) (n, K, mj_u2 F 456 x (nI k), G, R, A, L, AR) := by
  refine ⟨⟨o, h, hS, hI.tr hS.now hk⟩, rfl, rfl, rfl, fun a ha => ⟨fun f => ⟨?_, (hX a ha).1 f |>.2.1, (hX a ha).1 f |>.2.2⟩, (hX a ha).2.1, (hX a ha).2.2⟩⟩
  show mj_u2 F 456 x (nI k) f a = FI f a
  rw [mj_u2_2 (by omega)]
  exact ((hX a ha).1 f).1
theorem LX.out {F A : Nat → Nat → Int32} {L G : Nat → Nat → Int64} (ho : o = x + 2 ∨ o = x + 30) (hX : LX FI F AL L o) : ∀ a, (a < x ∨ x + 119 < a) → (∀ f, F f a = FI f a ∧ G f a = G f a ∧ FR f a = FR f a) ∧ A a = A a ∧ L a = AL a := fun a ha => ⟨fun f => ⟨hX.1 f a (Or.inl (by omega)), rfl, rfl⟩, rfl, hX.2 a (by omega)⟩
/-- cells -/
def sCell (P : PG) (u v : Int32) : Option Nat := if 0 ≤ u ∧ u < nI (wW (pW P)) ∧ 0 ≤ v ∧ v < nI (wH (pW P)) then some (wW (pW P) * v.toNatClampNeg + u.toNatClampNeg) else none
theorem sCell_lt {u v : Int32} {c : Nat} (h8 : wW (pW P) ≤ 8) (h4 : wH (pW P) ≤ 4) (hc : sCell P u v = some c) : c < wW (pW P) * wH (pW P) ∧ c < 32 := by
  unfold sCell at hc
  split at hc
  · next z =>
    obtain ⟨-, a1⟩ := rng_of (b := u) (N := wW (pW P)) (by omega) ⟨z.1, z.2.1⟩
    obtain ⟨-, a2⟩ := rng_of (b := v) (N := wH (pW P)) (by omega) ⟨z.2.2.1, z.2.2.2⟩
    cases hc
    have e1 : wW (pW P) * (v.toNatClampNeg + 1) ≤ wW (pW P) * wH (pW P) := Nat.mul_le_mul_left _ a2
    have e2 : wW (pW P) * wH (pW P) ≤ 8 * 4 := Nat.mul_le_mul h8 h4
    rw [Nat.mul_add] at e1
    omega
  · cases hc
theorem c_cellAtP (hS : CSt K FR AR x o h) (hI : CInv x o P K FR AR FI AI AL) {u v : Int32} (hQ : Q (some (.int (oI (sCell P u v) (-1)))) (n, K, FI, FL, FR, AI, AL, AR)) : EV sa (d + 1) 88 [.ref (o + 1), .int u, .int v] (n, K, FI, FL, FR, AI, AL, AR) Q := by
  have hT := hS.2.2.2.2.2.2.2.2.2.1.2.1
  obtain ⟨⟨⟨w1, w2, -⟩, -⟩, -, -, -, -, -, -, h8, h4⟩ := hI.told
  refine c_cellAt hT fun r hr => ?_
  rw [w1, w2] at hr
  have e : r = oI (sCell P u v) (-1) := by
    unfold sCell
    by_cases z : 0 ≤ u ∧ u < nI (wW (pW P)) ∧ 0 ≤ v ∧ v < nI (wH (pW P))
    · rw [if_pos z, hr, if_neg]
      · obtain ⟨e1, -⟩ := rng_of (b := u) (N := wW (pW P)) (by omega) ⟨z.1, z.2.1⟩
        obtain ⟨e2, -⟩ := rng_of (b := v) (N := wH (pW P)) (by omega) ⟨z.2.2.1, z.2.2.2⟩
        simp only [oI]
        rw [← nI_add, ← pk_mul, ← e1, ← e2]
      · rintro (q | q | q | q)
        · exact absurd q (Int32.not_lt.mpr z.1)
        · exact absurd z.2.1 (Int32.not_lt.mpr q)
        · exact absurd q (Int32.not_lt.mpr z.2.2.1)
        · exact absurd z.2.2.2 (Int32.not_lt.mpr q)
    · rw [if_neg z, hr, if_pos]
      · rfl
      · by_cases q1 : u < 0
        · exact Or.inl q1
        · by_cases q2 : nI (wW (pW P)) ≤ u
          · exact Or.inr (Or.inl q2)
          · by_cases q3 : v < 0
            · exact Or.inr (Or.inr (Or.inl q3))
            · by_cases q4 : nI (wH (pW P)) ≤ v
              · exact Or.inr (Or.inr (Or.inr q4))
              · exact absurd ⟨Int32.not_lt.mp q1, Int32.not_le.mp q2, Int32.not_lt.mp q3, Int32.not_le.mp q4⟩ z
  rw [e]
  exact hQ
def sCor (P : PG) (b u v : Int32) : Option Nat := match sCell P u v with
  | some c => if onAt (pW P) b.toNatClampNeg c then some c else none
  | none => none
theorem c_cornerAtP (hS : CSt K FR AR x o h) (hI : CInv x o P K FR AR FI AI AL) {b u v : Int32} (hb : isB P b = true) (hQ : Q (some (.int (oI (sCor P b u v) (-1)))) (n, K, FI, FL, FR, AI, AL, AR)) : EV sa (d + 2) 89 [.ref (o + 1), .int b, .int u, .int v] (n, K, FI, FL, FR, AI, AL, AR) Q := by
  have hT := hS.2.2.2.2.2.2.2.2.2.1.2.1
  obtain ⟨⟨⟨w1, w2, -⟩, tb, -⟩, -, -, -, h4b, -, -, h8, h4⟩ := hI.told
  have hb' : 0 ≤ b ∧ b < nI (wNB (pW P)) := by simpa [isB] using hb
  obtain ⟨e1, e2⟩ := rng_of (by omega) hb'
  have hbin : vp_in b 4 := by rw [e1]; exact vp_in_nI (by omega) (by decide)
  have hk := hT.1
  refine n89 hk ?_
  simp only [e89_0, e89_1, e89_2, e89_3, e89_6, e89_8, e89_10, e89_13, e89_14, e89_15, e89_17, e89_20, e89_23, e89_25, e89_28, e89_29]
  refine ⟨by simp, c_cellAtP hS hI ?_⟩
  unfold sCor at hQ
  simp only [tl_some, e89_0, e89_1, e89_2, e89_3, e89_6, e89_8, e89_10, e89_13, e89_14, e89_15, e89_17, e89_20, e89_23, e89_25, e89_28, e89_29, mj_kl]
  cases hc : sCell P u v with
  | none =>
    rw [hc] at hQ
    simp only [oI] at hQ ⊢
    exact ⟨fun _ => hQ, fun z => absurd (by decide) z⟩
  | some c =>
    rw [hc] at hQ
    obtain ⟨c1, c2⟩ := sCell_lt h8 h4 hc
    simp only [oI]
    refine ⟨fun z => absurd z (nI_pos (by omega)), fun _ => ⟨by simp, c_fits hT hbin fun f hf => ?_⟩⟩
    have hfit := (tb _ e2).2.2.2.2.2.1.bit c2
    have hf' : f = bI (onAt (pW P) b.toNatClampNeg c) := by
      rw [hf]
      by_cases q : onAt (pW P) b.toNatClampNeg c = true
      · rw [if_neg (fun z => by have := hfit.mp z; unfold onAt at q; rw [q] at this; cases this), q]; rfl
      · rw [if_pos (hfit.mpr (by unfold onAt at q; simpa using q))]
        rw [show onAt (pW P) b.toNatClampNeg c = false by simpa using q]; rfl
    subst hf'
    simp only [tl_some, e89_0, e89_1, e89_2, e89_3, e89_6, e89_8, e89_10, e89_13, e89_14, e89_15, e89_17, e89_20, e89_23, e89_25, e89_28, e89_29, bI_eq0]
    refine ⟨fun z => ?_, fun z => ?_⟩
    · simp only [z, Bool.false_eq_true, if_false, oI] at hQ; exact hQ
    · simp only [show onAt (pW P) b.toNatClampNeg c = true by simpa using z, if_true, oI] at hQ; exact hQ
theorem refQ {sp : Nat ⊕ Int32} (hS : CSt K FR AR x o h) (hI : CInv x o P K FR AR FI AI AL) (hQ : ∀ μ', InvC x (rs P sp) μ' → FrC x (n, K, FI, FL, FR, AI, AL, AR) μ' → Q (some (.int (rv sp))) μ') {k : Nat} (hk : k ≤ 7) (e : sp = .inl k) : Q (some (.int (-1))) (n, K, mj_u2 FI 456 x (nI k), FL, FR, AI, AL, AR) := by
  have f := finC (n := n) (FI := FI) (FL := FL) (FR := FR) (AI := AI) (AL := AL) (G := FL) hS hI (fun a _ => ⟨fun _ => ⟨rfl, rfl, rfl⟩, rfl, rfl⟩) hk
  subst e
  exact hQ _ f.1 f.2
theorem ansQ {sp : Nat ⊕ Int32} {F A : Nat → Nat → Int32} {L G : Nat → Nat → Int64} {R : Nat → Nat → Option Nat} (hS : CSt K R AR x o h) (hI : CInv x o P K R AR F A L) (hX : ∀ a, (a < x ∨ x + 119 < a) → (∀ f, F f a = FI f a ∧ G f a = FL f a ∧ R f a = FR f a) ∧ A a = AI a ∧ L a = AL a) (hQ : ∀ μ', InvC x (rs P sp) μ' → FrC x (n, K, FI, FL, FR, AI, AL, AR) μ' → Q (some (.int (rv sp))) μ') {v : Int32} (e : sp = .inr v) : Q (some (.int v)) (n, K, mj_u2 F 456 x 0, G, R, A, L, AR) := by
  have f := finC (n := n) (FI := FI) (FL := FL) (FR := FR) (AI := AI) (AL := AL) (G := G) hS hI hX (show 0 ≤ 7 by decide)
  subst e
  exact hQ _ f.1 f.2
theorem ansQ' {sp : Nat ⊕ Int32} (hS : CSt K FR AR x o h) (hI : CInv x o P K FR AR FI AI AL) (hQ : ∀ μ', InvC x (rs P sp) μ' → FrC x (n, K, FI, FL, FR, AI, AL, AR) μ' → Q (some (.int (rv sp))) μ') {v : Int32} (e : sp = .inr v) : Q (some (.int v)) (n, K, mj_u2 FI 456 x 0, FL, FR, AI, AL, AR) := ansQ hS hI (fun a _ => ⟨fun _ => ⟨rfl, rfl, rfl⟩, rfl, rfl⟩) hQ e
/-- .. where letters have changed -/
theorem ansL {sp : Nat ⊕ Int32} {F : Nat → Nat → Int32} {L : Nat → Nat → Int64} {s : WS} (hS : CSt K FR AR x o h) (hI : CInv x o P K FR AR FI AI AL) (es : gW P = some s) (hC : HC K FR F AI L o (o + 1) s.1 s.2.1.1 s.2.1.2.1) (hX : LX FI F AL L o) (hQ : ∀ μ', InvC x (rs P sp) μ' → FrC x (n, K, FI, FL, FR, AI, AL, AR) μ' → Q (some (.int (rv sp))) μ') {v : Int32} (e : sp = .inr v) : Q (some (.int v)) (n, K, mj_u2 F 456 x 0, FL, FR, AI, L, AR) := ansQ hS (hI.qx hS es hC hX.toQX (fun _ _ _ => rfl)) (hX.out hS.now) hQ e
theorem refL {sp : Nat ⊕ Int32} {F : Nat → Nat → Int32} {L : Nat → Nat → Int64} {s : WS} (hS : CSt K FR AR x o h) (hI : CInv x o P K FR AR FI AI AL) (es : gW P = some s) (hC : HC K FR F AI L o (o + 1) s.1 s.2.1.1 s.2.1.2.1) (hX : LX FI F AL L o) (hQ : ∀ μ', InvC x (rs P sp) μ' → FrC x (n, K, FI, FL, FR, AI, AL, AR) μ' → Q (some (.int (rv sp))) μ') {k : Nat} (hk : k ≤ 7) (e : sp = .inl k) : Q (some (.int (-1))) (n, K, mj_u2 F 456 x (nI k), FL, FR, AI, L, AR) := by
  have f := finC (n := n) (FI := FI) (FL := FL) (FR := FR) (AI := AI) (AL := AL) (G := FL) hS (hI.qx hS es hC hX.toQX (fun _ _ _ => rfl)) (hX.out hS.now) hk
  subst e
  exact hQ _ f.1 f.2
end
