/-! ## the class and the model side by side -/
section
variable {sa : Nat → Nat} {d n t h m : Nat} {Q : mj_Q} {K : Nat → Nat × Nat} {FI : Nat → Nat → Int32} {FL : Nat → Nat → Int64} {FR : Nat → Nat → Option Nat} {AI : Nat → Nat → Int32} {AL : Nat → Nat → Int64} {AR : Nat → Nat → Option Nat} {w : Wl} {hs : Nat → Hg}
variable {x o q : Nat} {P : PG}
theorem CSt.cg {K' : Nat → Nat × Nat} {FR' : Nat → Nat → Option Nat} (hS : CSt K FR AR x o h) (hK : ∀ a, x ≤ a → a ≤ x + 119 → K' a = K a) (hR : ∀ a, x ≤ a → a ≤ x + 119 → ∀ f, FR' f a = FR f a) : CSt K' FR' AR x o h := by
  obtain ⟨k0, ⟨f1, k1⟩, f2, f3, f4, f5, f6, f7, ho, ⟨c1, c2, c3⟩, ⟨t1, t2, t3, ⟨t4, t5⟩, ⟨t6, t7⟩, t8, t9, t10, t11, t12, t13⟩, ⟨e1, g1, s1, s1'⟩, ⟨e2, g2, s2, s2'⟩, ⟨r1, r2, r3⟩, q1, q2, q3⟩ := hS
  have rx := hR x (by omega) (by omega)
  have rt := hR (x + 25) (by omega) (by omega)
  have b1 := s1' 0 (by decide)
  have b2 := s2' 0 (by decide)
  refine ⟨by rw [hK x (by omega) (by omega)]; exact k0, ⟨by rw [rx]; exact f1, by rw [hK _ (by omega) (by omega)]; exact k1⟩, by rw [rx]; exact f2, by rw [rx]; exact f3, by rw [rx]; exact f4, by rw [rx]; exact f5, by rw [rx]; exact f6, by rw [rx]; exact f7, ho, ⟨c1.cg (fun j hj => hK _ (by omega) (by omega)) (hR _ (by omega) (by omega)), c2.cg (fun j hj => hK _ (by omega) (by omega)) (hR _ (by omega) (by omega)), by rw [hR o (by omega) (by omega)]; exact c3⟩, ⟨by rw [hK _ (by omega) (by omega)]; exact t1, by rw [rt]; exact t2, by rw [hK _ (by omega) (by omega)]; exact t3, ⟨by rw [rt]; exact t4, by rw [hK _ (by omega) (by omega)]; exact t5⟩, ⟨by rw [rt]; exact t6, by rw [hK _ (by omega) (by omega)]; exact t7⟩, by rw [rt]; exact t8, by rw [rt]; exact t9, t10.cg (fun j hj => hK _ (by omega) (by omega)) (hR _ (by omega) (by omega)), t11.cg (fun j hj => hK _ (by omega) (by omega)) (hR _ (by omega) (by omega)), by rw [hR h (by omega) (by omega)]; exact t12, t13⟩, ⟨e1, g1, s1.cg (fun c y1 y2 => ⟨hK c (by omega) (by omega), rfl⟩) (hR _ (by omega) (by omega) 192) (by omega) (fun i hi => by have := s1' i hi; omega), s1'⟩, ⟨e2, g2, s2.cg (fun c y1 y2 => ⟨hK c (by omega) (by omega), rfl⟩) (hR _ (by omega) (by omega) 192) (by omega) (fun i hi => by have := s2' i hi; omega), s2'⟩, ⟨by rw [hK _ (by omega) (by omega)]; exact r1, by rw [hR _ (by omega) (by omega)]; exact r2, r3.cg (fun j hj => hK _ (by omega) (by omega)) (hR _ (by omega) (by omega))⟩, by rw [hK _ (by omega) (by omega)]; exact q1, by rw [hR _ (by omega) (by omega)]; exact q2, q3.cg (fun j hj => hK _ (by omega) (by omega)) (hR _ (by omega) (by omega))⟩
/-- a shelf over another K -/
theorem ShelfS.same {s e e1 R : Nat} {g g1 : Nat → Nat} {K' : Nat → Nat × Nat} (h1 : ShelfS K FR AR s e1 g1 R) (h : ShelfS K' FR AR s e g R) : ShelfS K FR AR s e g R := by
  obtain ⟨a1, a2, a3, a4, a5, a6, a7⟩ := h1
  obtain ⟨b1, b2, b3, b4, b5, b6, b7⟩ := h
  have ee : e1 = e := by rw [a2] at b2; exact Option.some.inj b2
  subst ee
  refine ⟨a1, b2, a3, b4, b5, fun i hi => ⟨(b6 i hi).1, ?_⟩, b7⟩
  have z1 := (a6 i hi).1
  have z2 := (b6 i hi).1
  rw [z1] at z2
  rw [← Option.some.inj z2]
  exact (a6 i hi).2
theorem CInv.cgK {K' : Nat → Nat × Nat} (hI : CInv x o P K FR AR FI AI AL) (hS : CSt K FR AR x o h) (hK : ∀ a, x ≤ a → a ≤ x + 119 → K' a = K a) : CInv x o P K' FR AR FI AI AL := by
  obtain ⟨-, -, -, -, -, -, -, -, ho, -, -, ⟨e1, g1, s1, s1'⟩, ⟨e2, g2, s2, s2'⟩, -, -⟩ := hS
  refine ⟨hI.1, ?_⟩
  have h2 := hI.2
  revert h2
  cases gW P with
  | none => exact fun h2 => h2
  | some s =>
    rintro ⟨⟨hH, hT, hC⟩, b2, b3, ⟨b4, b4'⟩, b5, b5'⟩
    exact ⟨⟨hH.cg (fun j hj => hK _ (by omega) (by omega)) (fun _ => rfl), hT.cg (fun j hj => hK _ (by omega) (by omega)) (fun _ => rfl), hC⟩, b2, b3, ⟨fun e g y => b4 e g (s1.same y), b4'⟩, fun e g y => b5 e g (s2.same y), b5'⟩
theorem InvC.frM {μ μ' : mj_M} (hI : InvC x P μ) (hq : x + 120 = q) (hn : q ≤ μ.1) (f : FrM q μ μ') : InvC x P μ' := by
  obtain ⟨n, K, FI, FL, FR, AI, AL, AR⟩ := μ
  obtain ⟨n', K', FI', FL', FR', AI', AL', AR'⟩ := μ'
  obtain ⟨o, h, hS, hC⟩ := hI
  obtain ⟨f1, f2, f3, f4⟩ := f
  replace hS : CSt K FR AR x o h := hS
  replace hC : CInv x o P K FR AR FI AI AL := hC
  replace hn : q ≤ n := hn
  replace f2 : ∀ a, a < n → K' a = K a := f2
  replace f3 : AR' = AR := f3
  replace f4 : ∀ a, (a < q ∨ a = q + 13) → (∀ f, FI' f a = FI f a ∧ FL' f a = FL f a ∧ FR' f a = FR f a) ∧ AI' a = AI a ∧ AL' a = AL a := f4
  subst f3
  have hK : ∀ a, x ≤ a → a ≤ x + 119 → K' a = K a := fun a h1 h2 => f2 a (by omega)
  have ho : o = x + 2 ∨ o = x + 30 := by have := hS.2.2.2.2.2.2.2.2.1; omega
  have cell := fun a (h2 : a ≤ x + 119) => f4 a (Or.inl (by omega))
  have hS' : CSt K FR' AR' x o h := hS.cg (fun _ _ _ => rfl) (fun a _ h2 f => ((cell a h2).1 f).2.2)
  obtain ⟨b1, b2, b3, b4, b5, b6, b7, b8⟩ := hC.1
  have fx := fun f => ((cell x (by omega)).1 f).1
  have c1 : CInv x o P K FR' AR' FI' AI' AL' := hC.keep hS rfl ⟨by rw [(cell (x + 1) (by omega)).2.1]; exact b1, by rw [fx]; exact b2, b3, by rw [fx]; exact b4, by rw [fx]; exact b5, by rw [fx]; exact b6, b7, b8⟩ (fun a ha => ⟨fun f => ((cell a (by omega)).1 f).1, (cell a (by omega)).2.1, (cell a (by omega)).2.2, fun f => ((cell a (by omega)).1 f).2.2⟩)
  exact ⟨o, h, hS'.cg hK (fun _ _ _ _ => rfl), c1.cgK hS' hK⟩
theorem MInv.same {FR' : Nat → Nat → Option Nat} {FI' AI' : Nat → Nat → Int32} {AL' : Nat → Nat → Int64} (hI : MInv q P n K FR FI AI AL) (e : ∀ c, q ≤ c → (∀ f, FI' f c = FI f c ∧ FR' f c = FR f c) ∧ AI' c = AI c ∧ AL' c = AL c) : MInv q P n K FR' FI' AI' AL' := by
  obtain ⟨h1, ⟨b1, b2, b3, b4, b5, b6⟩, h3, h4⟩ := hI
  have fq := fun f => ((e q (Nat.le_refl _)).1 f)
  refine ⟨h1.cg (fun _ _ => rfl) (fun f _ => (fq f).2), ⟨by rw [(e (q + 3) (by omega)).2.1]; exact b1, by rw [(fq _).1]; exact b2, b3, by rw [(fq _).1]; exact b4, by rw [(fq _).1]; exact b5, by rw [(fq _).1]; exact b6⟩, h3, ?_⟩
  revert h4
  cases gW P with
  | none =>
    intro h4
    show FR' 643 q = none
    rw [(fq _).2]; exact h4
  | some s =>
    rintro ⟨b, ⟨⟨v1, v2, v3, v4, v5, v6, v7, v8⟩, o1, o2⟩, c1, c2, c3, c4, ⟨c5, c6⟩, c7, c8⟩
    refine ⟨b, ⟨⟨(h1.cg (K' := K) (FR' := FR') (fun _ _ => rfl) (fun f _ => (fq f).2)).md, v2.cg (fun _ _ => rfl) (fun f => ((e b (by omega)).1 f).2), v3, v4.fr (fun f => ((e b (by omega)).1 f).1) (fun j _ _ => (e _ (by omega)).2.1), v5.cg (fun _ _ => rfl) (fun f => ((e _ (by omega)).1 f).2), v6.fr (e _ (by omega)).2.1 (e _ (by omega)).2.2, v7, v8⟩, by rw [(fq _).2]; exact o1, by rw [(fq _).2]; exact o2⟩, c1, c2, ?_, c4, ⟨by rw [(fq _).1]; exact c5, by rw [(e (q + 5) (by omega)).2.1]; exact c6⟩, by rw [(fq _).1]; exact c7, by rw [(e (q + 6) (by omega)).2.1]; exact c8⟩
    unfold MSP
    rw [(e (b + 13 + 1) (by omega)).2.1]; exact c3
theorem InvM.frC {μ μ' : mj_M} (hI : InvM q P μ) (hq : x + 119 < q) (f : FrC x μ μ') : InvM q P μ' := by
  obtain ⟨n, K, FI, FL, FR, AI, AL, AR⟩ := μ
  obtain ⟨n', K', FI', FL', FR', AI', AL', AR'⟩ := μ'
  obtain ⟨f1, f2, f3, f4⟩ := f
  replace f1 : n' = n := f1
  replace f2 : K' = K := f2
  subst f1 f2
  exact MInv.same hI (fun c hc => ⟨fun f => ⟨((f4 c (Or.inr (by omega))).1 f).1, ((f4 c (Or.inr (by omega))).1 f).2.2⟩, (f4 c (Or.inr (by omega))).2.1, (f4 c (Or.inr (by omega))).2.2⟩)
end
