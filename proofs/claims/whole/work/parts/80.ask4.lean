def sp_stays (P : PG) (b u v : Int32) : Nat ⊕ Int32 := if isB P b then (match sCor P b u v with
  | none => .inl 2
  | some c => if mayAt (pW P) (pHs P) (pM P) b.toNatClampNeg c then .inr (nI (stayN (pW P) (pHs P) (pM P) b.toNatClampNeg c)) else .inl 5) else .inl 1
def sp_best (P : PG) (b : Int32) : Nat ⊕ Int32 := if isB P b then (match bestN (pW P) (pHs P) (pM P) b.toNatClampNeg (wW (pW P) * wH (pW P)) with
  | none => .inl 6
  | some g => .inr (nI g.1)) else .inl 1
/-- whether rows of so many bills are refused -/
def rowsR (P : PG) (D : Int32) (k : Nat) : Option Nat := if (gW P).isSome then (if D < 1 ∨ 4 < D then some 2 else if NRw (pW P) k (pHs P) (pM P) ≤ 20000 then none else some 3) else some 1
def dN (D : Int32) : Nat := min D.toNatClampNeg 4
def sp_far (P : PG) (D : Int32) : Nat ⊕ Int32 := match rowsR P D (dN D) with
  | some k => .inl k
  | none => .inr (nI (LRw (pW P) (dN D) (pHs P) (pM P)))
def shrt (P : PG) (r : Int32) (k : Nat) : Int32 := if SRw (pW P) (goalOf (pW P) r) r k (pHs P) (pM P) ≤ k then nI (SRw (pW P) (goalOf (pW P) r) r k (pHs P) (pM P)) else -2
def sp_shortest (P : PG) (D : Int32) : Nat ⊕ Int32 := match rowsR P D (dN D) with
  | some k => .inl k
  | none => .inr (shrt P (-2) (dN D))
def sp_wins (P : PG) (D : Int32) : Nat ⊕ Int32 := match rowsR P D (dN D) with
  | some k => .inl k
  | none => .inr (bI (WNw (pW P) (dN D) true (pHs P) (pM P)))
def sp_life (P : PG) (k : Int32) (hang : Bool) : Nat ⊕ Int32 := if (gW P).isSome then (if 0 ≤ k ∧ k ≤ 5 then .inr (nI ((lifeN (pW P) k.toNatClampNeg hang 31 (pHs P, pM P)).2 - pM P)) else .inl 2) else .inl 1
theorem OrdS.told {K : Nat → Nat × Nat} {FR : Nat → Nat → Option Nat} {q a : Nat} {v : Option Nat} (hS : OrdS K FR q) : OrdS K (mj_u2 FR 0 a v) q := ⟨hS.1, by rw [mj_u2_1 (by decide)]; exact hS.2.1, hS.2.2.told⟩
/-- what a question leaves of the references -/
def FRQ (K : Nat → Nat × Nat) (FR FR' : Nat → Nat → Option Nat) (x : Nat) : Prop := (∀ k a, (a < x + 72 ∨ x + 119 < a) → FR' k a = FR k a) ∧ RowS K FR' (x + 72) ∧ OrdS K FR' (x + 96)
section
variable {sa : Nat → Nat} {d n t h m : Nat} {Q : mj_Q} {K : Nat → Nat × Nat} {FI : Nat → Nat → Int32} {FL : Nat → Nat → Int64} {FR : Nat → Nat → Option Nat} {AI : Nat → Nat → Int32} {AL : Nat → Nat → Int64} {AR : Nat → Nat → Option Nat} {w : Wl} {hs : Nat → Hg}
variable {x : Nat} {P : PG}
theorem FRQ.u {v : Option Nat} (h1 : RowS K FR (x + 72)) (h2 : OrdS K FR (x + 96)) : FRQ K FR (mj_u2 FR 0 (x + 72 + 1) v) x := ⟨fun k a ha => mj_u2_2 (by omega), h1.told, h2.told⟩
theorem FRQ.trans {R R' : Nat → Nat → Option Nat} (a : FRQ K FR R x) (b : FRQ K R R' x) : FRQ K FR R' x := ⟨fun k z hz => by rw [b.1 k z hz, a.1 k z hz], b.2.1, b.2.2⟩
theorem FRQ.same (h1 : RowS K FR (x + 72)) (h2 : OrdS K FR (x + 96)) : FRQ K FR FR x := ⟨fun _ _ _ => rfl, h1, h2⟩
theorem QX.out {o : Nat} {F A : Nat → Nat → Int32} {L G : Nat → Nat → Int64} {R : Nat → Nat → Option Nat} (ho : o = x + 2 ∨ o = x + 30) (hX : QX (x + 72) (x + 119) o FI F AI A AL L) (hR : FRQ K FR R x) : ∀ a, (a < x ∨ x + 119 < a) → (∀ f, F f a = FI f a ∧ G f a = G f a ∧ R f a = FR f a) ∧ A a = AI a ∧ L a = AL a := fun a ha => ⟨fun f => ⟨(hX a (by omega)).1 f (fun z => by omega), rfl, hR.1 f a (by omega)⟩, (hX a (by omega)).2.1, (hX a (by omega)).2.2 (by omega)⟩
theorem QX.wide {lo hi lo' hi' o : Nat} {F A : Nat → Nat → Int32} {L : Nat → Nat → Int64} (a : QX lo hi o FI F AI A AL L) (h1 : lo' ≤ lo) (h2 : hi ≤ hi') : QX lo' hi' o FI F AI A AL L := fun z hz => a z (by omega)
theorem CSt.q {o : Nat} {R : Nat → Nat → Option Nat} (hS : CSt K FR AR x o h) (hR : FRQ K FR R x) : CSt K R AR x o h := hS.fr (fun k a ha => hR.1 k a (Or.inl ha)) hR.2.1 hR.2.2
theorem ansR {o : Nat} {sp : Nat ⊕ Int32} {F A : Nat → Nat → Int32} {L : Nat → Nat → Int64} {R : Nat → Nat → Option Nat} {s : WS} (hS : CSt K FR AR x o h) (hI : CInv x o P K FR AR FI AI AL) (es : gW P = some s) (hR : FRQ K FR R x) (hC : HC K R F A L o (o + 1) s.1 s.2.1.1 s.2.1.2.1) (hX : QX (x + 72) (x + 119) o FI F AI A AL L) (hQ : ∀ μ', InvC x (rs P sp) μ' → FrC x (n, K, FI, FL, FR, AI, AL, AR) μ' → Q (some (.int (rv sp))) μ') {v : Int32} (e : sp = .inr v) : Q (some (.int v)) (n, K, mj_u2 F 456 x 0, FL, R, A, L, AR) := ansQ (hS.q hR) (hI.qx hS es hC hX (fun k a ha => hR.1 k a (Or.inl ha))) (hX.out hS.now hR) hQ e
theorem refR {o : Nat} {sp : Nat ⊕ Int32} {F A : Nat → Nat → Int32} {L : Nat → Nat → Int64} {R : Nat → Nat → Option Nat} {s : WS} (hS : CSt K FR AR x o h) (hI : CInv x o P K FR AR FI AI AL) (es : gW P = some s) (hR : FRQ K FR R x) (hC : HC K R F A L o (o + 1) s.1 s.2.1.1 s.2.1.2.1) (hX : QX (x + 72) (x + 119) o FI F AI A AL L) (hQ : ∀ μ', InvC x (rs P sp) μ' → FrC x (n, K, FI, FL, FR, AI, AL, AR) μ' → Q (some (.int (rv sp))) μ') {k : Nat} (hk : k ≤ 7) (e : sp = .inl k) : Q (some (.int (-1))) (n, K, mj_u2 F 456 x (nI k), FL, R, A, L, AR) := by
  have f := finC (n := n) (FI := FI) (FL := FL) (FR := FR) (AI := AI) (AL := AL) (G := FL) (hS.q hR) (hI.qx hS es hC hX (fun k a ha => hR.1 k a (Or.inl ha))) (hX.out hS.now hR) hk
  subst e
  exact hQ _ f.1 f.2
theorem c_refusalP {o : Nat} (hS : CSt K FR AR x o h) (hI : CInv x o P K FR AR FI AI AL) {D M : Int32} {k : Nat} (hk4 : k ≤ 4) (hk : ¬ (D < 1 ∨ 4 < D) → M = nI k) (h1 : gW P = none → Q (some (.int 1)) (n, K, FI, FL, FR, AI, AL, AR)) (h2 : ∀ s, gW P = some s → (D < 1 ∨ 4 < D) → Q (some (.int 2)) (n, K, FI, FL, FR, AI, AL, AR)) (h3 : ∀ s, gW P = some s → ¬ (D < 1 ∨ 4 < D) → ∀ (F A : Nat → Nat → Int32) (L : Nat → Nat → Int64), HC K (mj_u2 FR 0 (x + 72 + 1) (some (o + 1))) F A L o (o + 1) s.1 s.2.1.1 s.2.1.2.1 → QX (x + 72) (x + 119) o FI F AI A AL L → (NRw s.1 k s.2.1.1 s.2.1.2.1 ≤ 20000 → F 130 (x + 72) = nI (LRw s.1 k s.2.1.1 s.2.1.2.1)) → Q (some (.int (if NRw s.1 k s.2.1.1 s.2.1.2.1 ≤ 20000 then 0 else 3))) (n, K, F, FL, mj_u2 FR 0 (x + 72 + 1) (some (o + 1)), A, L, AR)) : EV sa (d + 11) 31 [.ref (x + 72), .ref o, .int D, .int M] (n, K, FI, FL, FR, AI, AL, AR) Q := by
  obtain ⟨k0, -, f450, -, -, -, f454, f455, -, ⟨hH, hT, ht⟩, -, -, -, hRow, hOrd⟩ := id hS
  have hno := hS.now
  cases e : gW P with
  | none =>
    have := hI.told.1.1.1
    have w0 : pW P = w_0 := by unfold pW; rw [e]
    rw [w0] at this
    exact c_refusal0 hRow hH hT ht this (h1 e)
  | some s =>
    have := c_refusal (sa := sa) (d := d + 4 - k) (n := n) (FL := FL) (AR := AR) (Q := Q) hRow (hI.hc e).1 (by omega) (by omega) (D := D) (M := M) (k := k) (fun q => ⟨hk q, hk4⟩) (h2 s e) (fun q F A L b1 b2 b3 => h3 s e q F A L b1 ((b2.toQX).wide (by omega) (by omega)) b3)
    rw [show d + 4 - k + k + 7 = d + 11 by omega] at this
    exact this
theorem dN_ok {D : Int32} (h : ¬ (D < 1 ∨ 4 < D)) : D = nI (dN D) := by
  obtain ⟨j, hj, rfl⟩ := nI_of2 (M := 4) (n := 4) (by decide) (fun z => h (Or.inl (Int32.lt_trans z (by decide)))) (Int32.not_lt.mp (fun z => h (Or.inr z)))
  unfold dN
  rw [nI_clamp (by omega), Nat.min_eq_left hj]
theorem dN_4 {D : Int32} : dN D ≤ 4 := Nat.min_le_right _ _
theorem c_far (hV : InvC x P (n, K, FI, FL, FR, AI, AL, AR)) {D : Int32} (hQ : ∀ μ', InvC x (rs P (sp_far P D)) μ' → FrC x (n, K, FI, FL, FR, AI, AL, AR) μ' → Q (some (.int (rv (sp_far P D)))) μ') : EV sa (d + 12) 130 [.ref x, .int D] (n, K, FI, FL, FR, AI, AL, AR) Q := by
  obtain ⟨o, h, hS, hI⟩ := hV
  replace hS : CSt K FR AR x o h := hS
  replace hI : CInv x o P K FR AR FI AI AL := hI
  obtain ⟨k0, -, f450, -, -, -, f454, f455, -, ⟨hH, hT, ht⟩, -, -, -, hRow, hOrd⟩ := id hS
  have hno := hS.now
  refine n130 k0 ?_
  simp only [e130_0, e130_1, e130_4, e130_5, e130_8, e130_9, e130_10, e130_13, e130_14, e130_15, e130_18, e130_19, e130_20, e130_23, e130_26, e130_27, e130_28, e130_31, e130_34, e130_37, k0, f454, f450, rf_some, true_and]
  refine ⟨by simp, c_refusalP hS hI (k := dN D) dN_4 dN_ok (fun e => ?_) (fun s e q => ?_) (fun s e q F A L b1 b2 b3 => ?_)⟩
  · simp only [tl_some, e130_0, e130_1, e130_4, e130_5, e130_8, e130_9, e130_10, e130_13, e130_14, e130_15, e130_18, e130_19, e130_20, e130_23, e130_26, e130_27, e130_28, e130_31, e130_34, e130_37, mj_kl]
    refine ⟨fun z => absurd z (by decide), fun _ => ⟨by simp, c_refuse hS ?_⟩⟩
    simp only [tl_some, e130_0, e130_1, e130_4, e130_5, e130_8, e130_9, e130_10, e130_13, e130_14, e130_15, e130_18, e130_19, e130_20, e130_23, e130_26, e130_27, e130_28, e130_31, e130_34, e130_37]
    exact refQ hS hI hQ (k := 1) (by decide) (by unfold sp_far rowsR; rw [e]; rfl)
  · simp only [tl_some, e130_0, e130_1, e130_4, e130_5, e130_8, e130_9, e130_10, e130_13, e130_14, e130_15, e130_18, e130_19, e130_20, e130_23, e130_26, e130_27, e130_28, e130_31, e130_34, e130_37, mj_kl]
    refine ⟨fun z => absurd z (by decide), fun _ => ⟨by simp, c_refuse hS ?_⟩⟩
    simp only [tl_some, e130_0, e130_1, e130_4, e130_5, e130_8, e130_9, e130_10, e130_13, e130_14, e130_15, e130_18, e130_19, e130_20, e130_23, e130_26, e130_27, e130_28, e130_31, e130_34, e130_37]
    exact refQ hS hI hQ (k := 2) (by decide) (by unfold sp_far rowsR; rw [e]; simp only [Option.isSome_some, if_true]; rw [if_pos q])
  · obtain ⟨p1, p2⟩ := pW_some e
    have fq := FRQ.u (v := some (o + 1)) hRow hOrd
    have hS' := hS.q fq
    have f454' : mj_u2 FR 0 (x + 72 + 1) (some (o + 1)) 454 x = some (x + 72) := hS'.2.2.2.2.2.2.1
    have hR' : RowS K (mj_u2 FR 0 (x + 72 + 1) (some (o + 1))) (x + 72) := fq.2.1
    have er : rowsR P D (dN D) = if NRw s.1 (dN D) s.2.1.1 s.2.1.2.1 ≤ 20000 then none else some 3 := by
      unfold rowsR pHs pM
      rw [e, p1, p2]
      simp only [Option.isSome_some, if_true]
      rw [if_neg q]
    simp only [tl_some, e130_0, e130_1, e130_4, e130_5, e130_8, e130_9, e130_10, e130_13, e130_14, e130_15, e130_18, e130_19, e130_20, e130_23, e130_26, e130_27, e130_28, e130_31, e130_34, e130_37, mj_kl]
    by_cases y : NRw s.1 (dN D) s.2.1.1 s.2.1.2.1 ≤ 20000
    · rw [if_pos y] at er ⊢
      simp only [e130_0, e130_1, e130_4, e130_5, e130_8, e130_9, e130_10, e130_13, e130_14, e130_15, e130_18, e130_19, e130_20, e130_23, e130_26, e130_27, e130_28, e130_31, e130_34, e130_37, k0, f454', hR'.1, rf_some, b3 y, true_and]
      refine ⟨fun _ => ⟨by simp, c_answer hS' ?_⟩, fun z => absurd trivial z⟩
      simp only [tl_some, e130_0, e130_1, e130_4, e130_5, e130_8, e130_9, e130_10, e130_13, e130_14, e130_15, e130_18, e130_19, e130_20, e130_23, e130_26, e130_27, e130_28, e130_31, e130_34, e130_37]
      exact ansR hS hI e fq b1 b2 hQ (by unfold sp_far pHs pM; rw [er, p1, p2])
    · rw [if_neg y] at er ⊢
      refine ⟨fun z => absurd z (by decide), fun _ => ⟨by simp, c_refuse hS' ?_⟩⟩
      simp only [tl_some, e130_0, e130_1, e130_4, e130_5, e130_8, e130_9, e130_10, e130_13, e130_14, e130_15, e130_18, e130_19, e130_20, e130_23, e130_26, e130_27, e130_28, e130_31, e130_34, e130_37]
      exact refR hS hI e fq b1 b2 hQ (k := 3) (by decide) (by unfold sp_far; rw [er])
theorem c_shortest (hV : InvC x P (n, K, FI, FL, FR, AI, AL, AR)) {D : Int32} (hQ : ∀ μ', InvC x (rs P (sp_shortest P D)) μ' → FrC x (n, K, FI, FL, FR, AI, AL, AR) μ' → Q (some (.int (rv (sp_shortest P D)))) μ') : EV sa (d + 12) 131 [.ref x, .int D] (n, K, FI, FL, FR, AI, AL, AR) Q := by
  obtain ⟨o, h, hS, hI⟩ := hV
  replace hS : CSt K FR AR x o h := hS
  replace hI : CInv x o P K FR AR FI AI AL := hI
  obtain ⟨k0, -, f450, -, -, -, f454, f455, -, ⟨hH, hT, ht⟩, -, -, -, hRow, hOrd⟩ := id hS
  have hno := hS.now
  refine n131 k0 ?_
  simp only [e131_0, e131_1, e131_4, e131_5, e131_8, e131_9, e131_10, e131_13, e131_14, e131_15, e131_18, e131_19, e131_20, e131_23, e131_26, e131_27, e131_28, e131_31, e131_32, e131_35, e131_37, e131_38, e131_41, e131_44, k0, f454, f450, rf_some, true_and]
  refine ⟨by simp, c_refusalP hS hI (k := dN D) dN_4 dN_ok (fun e => ?_) (fun s e q => ?_) (fun s e q F A L b1 b2 b3 => ?_)⟩
  · simp only [tl_some, e131_0, e131_1, e131_4, e131_5, e131_8, e131_9, e131_10, e131_13, e131_14, e131_15, e131_18, e131_19, e131_20, e131_23, e131_26, e131_27, e131_28, e131_31, e131_32, e131_35, e131_37, e131_38, e131_41, e131_44, mj_kl]
    refine ⟨fun z => absurd z (by decide), fun _ => ⟨by simp, c_refuse hS ?_⟩⟩
    simp only [tl_some, e131_0, e131_1, e131_4, e131_5, e131_8, e131_9, e131_10, e131_13, e131_14, e131_15, e131_18, e131_19, e131_20, e131_23, e131_26, e131_27, e131_28, e131_31, e131_32, e131_35, e131_37, e131_38, e131_41, e131_44]
    exact refQ hS hI hQ (k := 1) (by decide) (by unfold sp_shortest rowsR; rw [e]; rfl)
  · simp only [tl_some, e131_0, e131_1, e131_4, e131_5, e131_8, e131_9, e131_10, e131_13, e131_14, e131_15, e131_18, e131_19, e131_20, e131_23, e131_26, e131_27, e131_28, e131_31, e131_32, e131_35, e131_37, e131_38, e131_41, e131_44, mj_kl]
    refine ⟨fun z => absurd z (by decide), fun _ => ⟨by simp, c_refuse hS ?_⟩⟩
    simp only [tl_some, e131_0, e131_1, e131_4, e131_5, e131_8, e131_9, e131_10, e131_13, e131_14, e131_15, e131_18, e131_19, e131_20, e131_23, e131_26, e131_27, e131_28, e131_31, e131_32, e131_35, e131_37, e131_38, e131_41, e131_44]
    exact refQ hS hI hQ (k := 2) (by decide) (by unfold sp_shortest rowsR; rw [e]; simp only [Option.isSome_some, if_true]; rw [if_pos q])
  · obtain ⟨p1, p2⟩ := pW_some e
    have fq := FRQ.u (v := some (o + 1)) hRow hOrd
    have hS' := hS.q fq
    obtain ⟨-, -, f450', -, -, -, f454', -⟩ := id hS'
    have er : rowsR P D (dN D) = if NRw s.1 (dN D) s.2.1.1 s.2.1.2.1 ≤ 20000 then none else some 3 := by
      unfold rowsR pHs pM
      rw [e, p1, p2]
      simp only [Option.isSome_some, if_true]
      rw [if_neg q]
    simp only [tl_some, e131_0, e131_1, e131_4, e131_5, e131_8, e131_9, e131_10, e131_13, e131_14, e131_15, e131_18, e131_19, e131_20, e131_23, e131_26, e131_27, e131_28, e131_31, e131_32, e131_35, e131_37, e131_38, e131_41, e131_44, mj_kl]
    by_cases y : NRw s.1 (dN D) s.2.1.1 s.2.1.2.1 ≤ 20000
    · rw [if_pos y] at er ⊢
      simp only [e131_0, e131_1, e131_4, e131_5, e131_8, e131_9, e131_10, e131_13, e131_14, e131_15, e131_18, e131_19, e131_20, e131_23, e131_26, e131_27, e131_28, e131_31, e131_32, e131_35, e131_37, e131_38, e131_41, e131_44, k0, f450', f454', rf_some, true_and]
      refine ⟨fun _ => ⟨by simp, ?_⟩, fun z => absurd trivial z⟩
      have fq2 := fq.trans (FRQ.u (v := some (o + 1)) fq.2.1 fq.2.2)
      have d4 := dN_4 (D := D)
      have eD := dN_ok q
      have sr := c_shortestRow (sa := sa) (d := d + 4 - dN D) (n := n) (FL := FL) (AR := AR) (Q := fun v μ => WP sa (EV sa (d + 11)) 131 Q 0 0 41 [.ref x, .int D, .int 0] (v.toList ++ [.ref x]) μ) fq.2.1 b1 (by omega) (by omega) (r := -2) (k := dN D) d4 fun F2 A2 L2 c1 c2 => by
        simp only [tl_some, e131_0, e131_1, e131_4, e131_5, e131_8, e131_9, e131_10, e131_13, e131_14, e131_15, e131_18, e131_19, e131_20, e131_23, e131_26, e131_27, e131_28, e131_31, e131_32, e131_35, e131_37, e131_38, e131_41, e131_44]
        refine ⟨by simp, c_answer (hS.q fq2) ?_⟩
        simp only [tl_some, e131_0, e131_1, e131_4, e131_5, e131_8, e131_9, e131_10, e131_13, e131_14, e131_15, e131_18, e131_19, e131_20, e131_23, e131_26, e131_27, e131_28, e131_31, e131_32, e131_35, e131_37, e131_38, e131_41, e131_44]
        exact ansR hS hI e fq2 c1 (b2.trans ((c2.toQX).wide (by omega) (by omega))) hQ (by unfold sp_shortest shrt pHs pM; rw [er, p1, p2])
      rw [← eD, show d + 4 - dN D + dN D + 7 = d + 11 by omega] at sr
      exact sr
    · rw [if_neg y] at er ⊢
      refine ⟨fun z => absurd z (by decide), fun _ => ⟨by simp, c_refuse hS' ?_⟩⟩
      simp only [tl_some, e131_0, e131_1, e131_4, e131_5, e131_8, e131_9, e131_10, e131_13, e131_14, e131_15, e131_18, e131_19, e131_20, e131_23, e131_26, e131_27, e131_28, e131_31, e131_32, e131_35, e131_37, e131_38, e131_41, e131_44]
      exact refR hS hI e fq b1 b2 hQ (k := 3) (by decide) (by unfold sp_shortest; rw [er])
theorem c_wins (hV : InvC x P (n, K, FI, FL, FR, AI, AL, AR)) {D : Int32} (hQ : ∀ μ', InvC x (rs P (sp_wins P D)) μ' → FrC x (n, K, FI, FL, FR, AI, AL, AR) μ' → Q (some (.int (rv (sp_wins P D)))) μ') : EV sa (d + 12) 132 [.ref x, .int D] (n, K, FI, FL, FR, AI, AL, AR) Q := by
  obtain ⟨o, h, hS, hI⟩ := hV
  replace hS : CSt K FR AR x o h := hS
  replace hI : CInv x o P K FR AR FI AI AL := hI
  obtain ⟨k0, -, f450, -, -, -, f454, f455, -, ⟨hH, hT, ht⟩, -, -, -, hRow, hOrd⟩ := id hS
  have hno := hS.now
  refine n132 k0 ?_
  simp only [e132_0, e132_1, e132_4, e132_5, e132_8, e132_9, e132_10, e132_13, e132_14, e132_15, e132_18, e132_19, e132_20, e132_23, e132_26, e132_27, e132_28, e132_31, e132_32, e132_35, e132_36, e132_39, e132_42, e132_43, e132_46, e132_47, e132_50, k0, f454, f450, rf_some, true_and]
  refine ⟨by simp, c_refusalP hS hI (k := dN D) dN_4 dN_ok (fun e => ?_) (fun s e q => ?_) (fun s e q F A L b1 b2 b3 => ?_)⟩
  · simp only [tl_some, e132_0, e132_1, e132_4, e132_5, e132_8, e132_9, e132_10, e132_13, e132_14, e132_15, e132_18, e132_19, e132_20, e132_23, e132_26, e132_27, e132_28, e132_31, e132_32, e132_35, e132_36, e132_39, e132_42, e132_43, e132_46, e132_47, e132_50, mj_kl]
    refine ⟨fun z => absurd z (by decide), fun _ => ⟨by simp, c_refuse hS ?_⟩⟩
    simp only [tl_some, e132_0, e132_1, e132_4, e132_5, e132_8, e132_9, e132_10, e132_13, e132_14, e132_15, e132_18, e132_19, e132_20, e132_23, e132_26, e132_27, e132_28, e132_31, e132_32, e132_35, e132_36, e132_39, e132_42, e132_43, e132_46, e132_47, e132_50]
    exact refQ hS hI hQ (k := 1) (by decide) (by unfold sp_wins rowsR; rw [e]; rfl)
  · simp only [tl_some, e132_0, e132_1, e132_4, e132_5, e132_8, e132_9, e132_10, e132_13, e132_14, e132_15, e132_18, e132_19, e132_20, e132_23, e132_26, e132_27, e132_28, e132_31, e132_32, e132_35, e132_36, e132_39, e132_42, e132_43, e132_46, e132_47, e132_50, mj_kl]
    refine ⟨fun z => absurd z (by decide), fun _ => ⟨by simp, c_refuse hS ?_⟩⟩
    simp only [tl_some, e132_0, e132_1, e132_4, e132_5, e132_8, e132_9, e132_10, e132_13, e132_14, e132_15, e132_18, e132_19, e132_20, e132_23, e132_26, e132_27, e132_28, e132_31, e132_32, e132_35, e132_36, e132_39, e132_42, e132_43, e132_46, e132_47, e132_50]
    exact refQ hS hI hQ (k := 2) (by decide) (by unfold sp_wins rowsR; rw [e]; simp only [Option.isSome_some, if_true]; rw [if_pos q])
  · obtain ⟨p1, p2⟩ := pW_some e
    have fq := FRQ.u (v := some (o + 1)) hRow hOrd
    have hS' := hS.q fq
    obtain ⟨-, -, f450', -, -, -, f454', -⟩ := id hS'
    have er : rowsR P D (dN D) = if NRw s.1 (dN D) s.2.1.1 s.2.1.2.1 ≤ 20000 then none else some 3 := by
      unfold rowsR pHs pM
      rw [e, p1, p2]
      simp only [Option.isSome_some, if_true]
      rw [if_neg q]
    simp only [tl_some, e132_0, e132_1, e132_4, e132_5, e132_8, e132_9, e132_10, e132_13, e132_14, e132_15, e132_18, e132_19, e132_20, e132_23, e132_26, e132_27, e132_28, e132_31, e132_32, e132_35, e132_36, e132_39, e132_42, e132_43, e132_46, e132_47, e132_50, mj_kl]
    by_cases y : NRw s.1 (dN D) s.2.1.1 s.2.1.2.1 ≤ 20000
    · rw [if_pos y] at er ⊢
      simp only [e132_0, e132_1, e132_4, e132_5, e132_8, e132_9, e132_10, e132_13, e132_14, e132_15, e132_18, e132_19, e132_20, e132_23, e132_26, e132_27, e132_28, e132_31, e132_32, e132_35, e132_36, e132_39, e132_42, e132_43, e132_46, e132_47, e132_50, k0, f450', f454', rf_some, true_and]
      refine ⟨fun _ => ⟨by simp, ?_⟩, fun z => absurd trivial z⟩
      have fq2 := fq.trans (FRQ.u (v := some (o + 1)) fq.2.1 fq.2.2)
      have d4 := dN_4 (D := D)
      have eD := dN_ok q
      have sr := c_nextWins (sa := sa) (d := d + 4 - dN D) (n := n) (FL := FL) (AR := AR) (Q := fun v μ => WP sa (EV sa (d + 11)) 132 Q 0 0 39 [.ref x, .int D, .int 0] (v.toList ++ [.ref x]) μ) fq.2.1 b1 (by omega) (by omega) (k := dN D) d4 fun F2 A2 L2 c1 c2 => by
        simp only [tl_some, e132_0, e132_1, e132_4, e132_5, e132_8, e132_9, e132_10, e132_13, e132_14, e132_15, e132_18, e132_19, e132_20, e132_23, e132_26, e132_27, e132_28, e132_31, e132_32, e132_35, e132_36, e132_39, e132_42, e132_43, e132_46, e132_47, e132_50, bI_eq0]
        have qx := b2.trans ((c2.toQX (o := o)).wide (lo' := x + 72) (hi' := x + 119) (by omega) (by omega))
        refine ⟨fun w => ⟨by simp, c_answer (hS.q fq2) ?_⟩, fun w => ⟨by simp, c_answer (hS.q fq2) ?_⟩⟩
        · simp only [tl_some, e132_0, e132_1, e132_4, e132_5, e132_8, e132_9, e132_10, e132_13, e132_14, e132_15, e132_18, e132_19, e132_20, e132_23, e132_26, e132_27, e132_28, e132_31, e132_32, e132_35, e132_36, e132_39, e132_42, e132_43, e132_46, e132_47, e132_50]
          exact ansR hS hI e fq2 c1 qx hQ (by unfold sp_wins pHs pM; rw [er, p1, p2]; simp only []; rw [w]; rfl)
        · simp only [tl_some, e132_0, e132_1, e132_4, e132_5, e132_8, e132_9, e132_10, e132_13, e132_14, e132_15, e132_18, e132_19, e132_20, e132_23, e132_26, e132_27, e132_28, e132_31, e132_32, e132_35, e132_36, e132_39, e132_42, e132_43, e132_46, e132_47, e132_50]
          exact ansR hS hI e fq2 c1 qx hQ (by unfold sp_wins pHs pM; rw [er, p1, p2]; simp only []; rw [ts_nf w]; rfl)
      rw [← eD, show d + 4 - dN D + dN D + 7 = d + 11 by omega] at sr
      exact sr
    · rw [if_neg y] at er ⊢
      refine ⟨fun z => absurd z (by decide), fun _ => ⟨by simp, c_refuse hS' ?_⟩⟩
      simp only [tl_some, e132_0, e132_1, e132_4, e132_5, e132_8, e132_9, e132_10, e132_13, e132_14, e132_15, e132_18, e132_19, e132_20, e132_23, e132_26, e132_27, e132_28, e132_31, e132_32, e132_35, e132_36, e132_39, e132_42, e132_43, e132_46, e132_47, e132_50]
      exact refR hS hI e fq b1 b2 hQ (k := 3) (by decide) (by unfold sp_wins; rw [er])
end
