/-- an act that answers -/
def iv (r : Nat ⊕ (WS × Int32)) : Int32 := match r with
  | .inl _ => -1
  | .inr s => s.2
def is' (P : PG) (r : Nat ⊕ (WS × Int32)) : PG := match r with
  | .inl k => setTr P k
  | .inr s => setTr (setW P s.1) 0
def sp_mark (P : PG) : Nat ⊕ (WS × Int32) := match gW P with
  | none => .inl 1
  | some s => if s.2.2.2.2 < 3 then .inr ((s.1, s.2.1, s.2.2.1, pushE s.2.2.2.1 s.2.2.2.2 3 s.2.1), nI s.2.2.2.2) else .inl 3
def payN (s : WS) (r : Nat) : Nat := ct (byR s.1 s.2.1.1 s.2.1.2.1 (nI r)) 32
def sp_days (P : PG) (k : Int32) : Nat ⊕ (WS × Int32) := match gW P with
  | none => .inl 1
  | some s => if 1 ≤ k ∧ k ≤ 30 then .inr (keepA s (s.2.1.1, s.2.1.2.1, s.2.1.2.2.1, fun r => if r < wNR s.1 then s.2.1.2.2.2 r + k * nI (payN s r) else s.2.1.2.2.2 r), nI (sm (payN s) (wNR s.1))) else .inl 2
section
variable {sa : Nat → Nat} {d n t h m : Nat} {Q : mj_Q} {K : Nat → Nat × Nat} {FI : Nat → Nat → Int32} {FL : Nat → Nat → Int64} {FR : Nat → Nat → Option Nat} {AI : Nat → Nat → Int32} {AL : Nat → Nat → Int64} {AR : Nat → Nat → Option Nat} {w : Wl} {hs : Nat → Hg}
variable {x : Nat} {P : PG}
theorem c_undo (hV : InvC x P (n, K, FI, FL, FR, AI, AL, AR)) (hQ : ∀ μ', InvC x (as' P (sp_undo P)) μ' → FrC x (n, K, FI, FL, FR, AI, AL, AR) μ' → Q (some (.int (av (sp_undo P)))) μ') : EV sa (d + 5) 123 [.ref x] (n, K, FI, FL, FR, AI, AL, AR) Q := by
  obtain ⟨o, h, hS, hI⟩ := hV
  replace hS : CSt K FR AR x o h := hS
  replace hI : CInv x o P K FR AR FI AI AL := hI
  obtain ⟨k0, -, f450, -, f452, f453, f454, f455, -, ⟨hH, hT, ht⟩, -, ⟨e1, g1, s1, s1'⟩, ⟨e2, g2, s2, s2'⟩, hRow, hOrd⟩ := id hS
  have hno := hS.now
  refine n123 k0 ?_
  simp only [e123_0, e123_1, e123_4, e123_5, e123_8, e123_11, e123_14, e123_15, e123_18, e123_21, e123_22, e123_24, e123_27, k0, f450, f452, rf_some, true_and]
  refine ⟨by simp, ?_⟩
  have no : FI 194 (x + 53) = nI 0 → sp_undo P = .inl 6 → EV sa (d + 4) 48 [.ref (x + 53), .ref o] (n, K, FI, FL, FR, AI, AL, AR) (fun v μ => WP sa (EV sa (d + 4)) 123 Q 0 0 11 [.ref x] (v.toList ++ []) μ) := fun q e => by
    refine c_takeLatest_no s1 q ?_
    simp only [tl_some, e123_0, e123_1, e123_4, e123_5, e123_8, e123_11, e123_14, e123_15, e123_18, e123_21, e123_22, e123_24, e123_27]
    refine ⟨fun _ => ⟨by simp, c_deny hS ?_⟩, fun y => absurd trivial y⟩
    simp only [tl_some, e123_0, e123_1, e123_4, e123_5, e123_8, e123_11, e123_14, e123_15, e123_18, e123_21, e123_22, e123_24, e123_27, true_or, true_and]
    exact dnQ hS hI hQ (k := 6) (by decide) e
  cases e : gW P with
  | none =>
    have h0 := hI.2
    rw [e] at h0
    exact no h0.2.2.2.2.2.1 (by unfold sp_undo; rw [e])
  | some s =>
    obtain ⟨hC, hSP, hE, hA, hM⟩ := hI.hc e
    have hA1 := hA.1 e1 g1 s1
    rcases Nat.eq_zero_or_pos s.2.2.1.2 with c0 | c0
    · exact no (by rw [hA1.2.1, c0]) (by unfold sp_undo; rw [e]; simp only []; rw [if_pos c0])
    · obtain ⟨c, hc⟩ : ∃ c, s.2.2.1.2 = c + 1 := ⟨s.2.2.1.2 - 1, by omega⟩
      rw [hc] at hA1
      refine c_takeLatest s1 hA1 (by omega) hH hT (by omega) ht hC.2.2.2.1 hC.2.2.2.2.1 hC.2.2.2.2.2.1.2.2.1 (by omega) (fun i hi => by have := s1' i hi; omega) fun F2 A2 c1 c2 c3 c4 c5 => ?_
      simp only [tl_some, e123_0, e123_1, e123_4, e123_5, e123_8, e123_11, e123_14, e123_15, e123_18, e123_21, e123_22, e123_24, e123_27]
      refine ⟨fun y => absurd y (by decide), fun _ => ⟨by simp, c_grant hS ?_⟩⟩
      simp only [tl_some, e123_0, e123_1, e123_4, e123_5, e123_8, e123_11, e123_14, e123_15, e123_18, e123_21, e123_22, e123_24, e123_27, or_true, true_and]
      refine grQ (s' := (s.1, s.2.2.1.1 c, (s.2.2.1.1, c), s.2.2.2)) hS (CInv.act hI (s' := (s.1, s.2.2.1.1 c, (s.2.2.1.1, c), s.2.2.2)) c1 c2 (hA.2 c (by omega)) (ShV.of s1 c3 (fun i hi => hA.2 i (by have : i < c := hi; omega))) ?_ ?_ ?_) (fun a ha => ⟨fun f => ⟨?_, rfl, rfl⟩, ?_, rfl⟩) hQ ?_
      · exact hM.fr s2 (c4 _ _ (by omega) (Or.inl (by omega))) (c4 _ _ (by omega) (Or.inl (by omega))) (fun i hi => by have := s2' i hi; exact c5 _ (by omega))
      · intro f; exact c4 f x (by omega) (Or.inl (by omega))
      · exact c5 _ (by omega)
      · exact c4 f a (by omega) (Or.inl (by omega))
      · exact c5 _ (by omega)
      · unfold sp_undo; rw [e]; simp only []; rw [if_neg (by omega), hc]; rfl
theorem c_back (hV : InvC x P (n, K, FI, FL, FR, AI, AL, AR)) {k : Int32} (hQ : ∀ μ', InvC x (as' P (sp_back P k)) μ' → FrC x (n, K, FI, FL, FR, AI, AL, AR) μ' → Q (some (.int (av (sp_back P k)))) μ') : EV sa (d + 4) 138 [.ref x, .int k] (n, K, FI, FL, FR, AI, AL, AR) Q := by
  obtain ⟨o, h, hS, hI⟩ := hV
  replace hS : CSt K FR AR x o h := hS
  replace hI : CInv x o P K FR AR FI AI AL := hI
  obtain ⟨k0, -, f450, -, f452, f453, f454, f455, -, ⟨hH, hT, ht⟩, -, ⟨e1, g1, s1, s1'⟩, ⟨e2, g2, s2, s2'⟩, hRow, hOrd⟩ := id hS
  have hno := hS.now
  refine n138 k0 ?_
  simp only [e138_0, e138_1, e138_4, e138_5, e138_6, e138_9, e138_12, e138_15, e138_16, e138_17, e138_20, e138_21, e138_22, e138_25, e138_28, e138_29, e138_32, k0, f450, f453, rf_some, true_and]
  refine ⟨by simp, ?_⟩
  have no : ∀ c : Nat, FI 194 (x + 67) = nI c → (k < 0 ∨ nI c ≤ k) → sp_back P k = .inl 1 → EV sa (d + 3) 49 [.ref (x + 67), .int k, .ref o] (n, K, FI, FL, FR, AI, AL, AR) (fun v μ => WP sa (EV sa (d + 3)) 138 Q 0 0 12 [.ref x, .int k] (v.toList ++ []) μ) := fun c q q2 e => by
    refine c_bring_no s2 q q2 ?_
    simp only [tl_some, e138_0, e138_1, e138_4, e138_5, e138_6, e138_9, e138_12, e138_15, e138_16, e138_17, e138_20, e138_21, e138_22, e138_25, e138_28, e138_29, e138_32]
    refine ⟨fun y => absurd trivial y, fun _ => ⟨by simp, c_deny hS ?_⟩⟩
    simp only [tl_some, e138_0, e138_1, e138_4, e138_5, e138_6, e138_9, e138_12, e138_15, e138_16, e138_17, e138_20, e138_21, e138_22, e138_25, e138_28, e138_29, e138_32, true_or, true_and]
    exact dnQ hS hI hQ (k := 1) (by decide) e
  cases e : gW P with
  | none =>
    have h0 := hI.2
    rw [e] at h0
    refine no 0 h0.2.2.2.2.2.2.1 ?_ (by unfold sp_back; rw [e])
    by_cases q : k < 0
    · exact Or.inl q
    · exact Or.inr (Int32.not_lt.mp q)
  | some s =>
    obtain ⟨hC, hSP, hE, hA, hM⟩ := hI.hc e
    have hM1 := hM.1 e2 g2 s2
    by_cases q : 0 ≤ k ∧ k < nI s.2.2.2.2
    · have h3 := hM1.1
      obtain ⟨ek, k2⟩ := rng_of (N := s.2.2.2.2) (by omega) q
      generalize hkk : k.toNatClampNeg = kk at *
      subst ek
      refine c_bring s2 hM1 k2 hH hT ht hC.2.2.2.1 hC.2.2.2.2.1 hC.2.2.2.2.2.1.2.2.1 (by omega) (fun i hi => by have := s2' i hi; omega) fun F2 A2 c1 c2 c3 c4 => ?_
      simp only [tl_some, e138_0, e138_1, e138_4, e138_5, e138_6, e138_9, e138_12, e138_15, e138_16, e138_17, e138_20, e138_21, e138_22, e138_25, e138_28, e138_29, e138_32, k0, f452, rf_some, true_and]
      refine ⟨fun _ => ⟨by simp, c_forgetAll s1 fun F3 d1 d2 => ?_⟩, fun y => absurd (by decide) y⟩
      simp only [tl_none, e138_0, e138_1, e138_4, e138_5, e138_6, e138_9, e138_12, e138_15, e138_16, e138_17, e138_20, e138_21, e138_22, e138_25, e138_28, e138_29, e138_32]
      refine ⟨by simp, c_grant hS ?_⟩
      simp only [tl_some, e138_0, e138_1, e138_4, e138_5, e138_6, e138_9, e138_12, e138_15, e138_16, e138_17, e138_20, e138_21, e138_22, e138_25, e138_28, e138_29, e138_32, or_true, true_and]
      refine grQ (s' := (s.1, s.2.2.2.1 kk, (s.2.2.1.1, 0), s.2.2.2)) hS (CInv.act hI (s' := (s.1, s.2.2.2.1 kk, (s.2.2.1.1, 0), s.2.2.2)) (c1.fx (fun f => d2 f o (Or.inl (by omega))) (fun f => d2 f (o + 1) (Or.inl (by omega)))) c2 (hM.2 kk k2) (ShV.of s1 (d1 A2 s.1 s.2.2.1.1) (fun i hi => absurd hi (Nat.not_lt_zero i))) ?_ ?_ ?_) (fun a ha => ⟨fun f => ⟨?_, rfl, rfl⟩, ?_, rfl⟩) hQ ?_
      · exact hM.fr s2 (by rw [d2 _ _ (Or.inl (by omega)), c3 _ _ (Or.inl (by omega))]) (by rw [d2 _ _ (Or.inl (by omega)), c3 _ _ (Or.inl (by omega))]) (fun i hi => by have := s2' i hi; exact c4 _ (by omega))
      · intro f; rw [d2 f x (Or.inl (by omega)), c3 f x (Or.inl (by omega))]
      · exact c4 _ (by omega)
      · rw [d2 f a (Or.inl (by omega)), c3 f a (Or.inl (by omega))]
      · exact c4 _ (by omega)
      · unfold sp_back; rw [e]; simp only []; rw [if_pos q, hkk]
    · refine no _ hM1.2.1 ?_ (by unfold sp_back; rw [e]; simp only []; rw [if_neg q])
      by_cases y : k < 0
      · exact Or.inl y
      · exact Or.inr (Int32.not_lt.mp (fun y2 => q ⟨Int32.not_lt.mp y, y2⟩))
theorem ivQ {o : Nat} {sp : Nat ⊕ (WS × Int32)} {F A : Nat → Nat → Int32} {L : Nat → Nat → Int64} {s' : WS} {v : Int32} (hS : CSt K FR AR x o h) (hI : CInv x o (setW P s') K FR AR F A L) (hX : ∀ a, (a < x ∨ x + 119 < a) → (∀ f, F f a = FI f a ∧ FL f a = FL f a ∧ FR f a = FR f a) ∧ A a = AI a ∧ L a = AL a) (hQ : ∀ μ', InvC x (is' P sp) μ' → FrC x (n, K, FI, FL, FR, AI, AL, AR) μ' → Q (some (.int (iv sp))) μ') (e : sp = .inr (s', v)) : Q (some (.int v)) (n, K, mj_u2 F 456 x 0, FL, FR, A, L, AR) := by
  have f := finC (n := n) (FI := FI) (FL := FL) (FR := FR) (AI := AI) (AL := AL) (G := FL) hS hI hX (show 0 ≤ 7 by decide)
  subst e
  exact hQ _ f.1 f.2
theorem irQ {o : Nat} {sp : Nat ⊕ (WS × Int32)} (hS : CSt K FR AR x o h) (hI : CInv x o P K FR AR FI AI AL) (hQ : ∀ μ', InvC x (is' P sp) μ' → FrC x (n, K, FI, FL, FR, AI, AL, AR) μ' → Q (some (.int (iv sp))) μ') {k : Nat} (hk : k ≤ 7) (e : sp = .inl k) : Q (some (.int (-1))) (n, K, mj_u2 FI 456 x (nI k), FL, FR, AI, AL, AR) := by
  have f := finC (n := n) (FI := FI) (FL := FL) (FR := FR) (AI := AI) (AL := AL) (G := FL) hS hI (fun a _ => ⟨fun _ => ⟨rfl, rfl, rfl⟩, rfl, rfl⟩) hk
  subst e
  exact hQ _ f.1 f.2
theorem c_mark (hV : InvC x P (n, K, FI, FL, FR, AI, AL, AR)) (hQ : ∀ μ', InvC x (is' P (sp_mark P)) μ' → FrC x (n, K, FI, FL, FR, AI, AL, AR) μ' → Q (some (.int (iv (sp_mark P)))) μ') : EV sa (d + 3) 137 [.ref x] (n, K, FI, FL, FR, AI, AL, AR) Q := by
  obtain ⟨o, h, hS, hI⟩ := hV
  replace hS : CSt K FR AR x o h := hS
  replace hI : CInv x o P K FR AR FI AI AL := hI
  obtain ⟨k0, -, f450, -, f452, f453, f454, f455, -, ⟨hH, hT, ht⟩, -, ⟨e1, g1, s1, s1'⟩, ⟨e2, g2, s2, s2'⟩, hRow, hOrd⟩ := id hS
  have hno := hS.now
  refine n137 k0 ?_
  simp only [e137_0, e137_1, e137_4, e137_7, e137_8, e137_9, e137_12, e137_13, e137_14, e137_17, e137_20, e137_21, e137_24, e137_25, e137_26, e137_29, e137_30, e137_31, e137_34, e137_35, e137_38, e137_41, e137_42, e137_43, e137_46, e137_49, e137_50, e137_51, e137_54]
  refine ⟨by simp, c_hasWall hS hI ?_⟩
  simp only [tl_some, e137_0, e137_1, e137_4, e137_7, e137_8, e137_9, e137_12, e137_13, e137_14, e137_17, e137_20, e137_21, e137_24, e137_25, e137_26, e137_29, e137_30, e137_31, e137_34, e137_35, e137_38, e137_41, e137_42, e137_43, e137_46, e137_49, e137_50, e137_51, e137_54, k0, f450, f453, s2.1, rf_some, true_and, bI_eq0]
  refine ⟨fun z => ?_, fun z => ⟨by simp, c_refuse hS ?_⟩⟩
  · obtain ⟨s, es⟩ := Option.isSome_iff_exists.mp (ts_nf z)
    obtain ⟨hC, hSP, hE, hA, hM⟩ := hI.hc es
    have hM1 := hM.1 e2 g2 s2
    have h3 := hM1.1
    rw [hM1.2.1]
    refine ⟨fun y => ⟨by simp, ?_⟩, fun y => ⟨by simp, c_refuse hS ?_⟩⟩
    · have y' : s.2.2.2.2 < 3 := (nI_ltI (b := 3) (by omega) (by decide)).mp y
      refine c_keep s2 hM1 (by omega) hC.1 hC.2.2.2.2.2.1 hSP (fun k hk => (hE.2.2.1 k hk).2) (fun i hi => by have := s2' i hi; omega) fun F' A' a1 a2 a3 => ?_
      have ax : AIx AI A' (x + 68) (x + 71) := fun q hq => a3 q (fun i hi => by have := s2' i hi; omega)
      have fr : Fr (x + 67) (x + 71) FI F' AI A' AL AL := fun a ha => ⟨fun f => a2 f a (Or.inl (by omega)), ax a (by omega), rfl⟩
      have ep : (pushE s.2.2.2.1 s.2.2.2.2 3 s.2.1).2 = s.2.2.2.2 + 1 := by unfold pushE; rw [if_pos y']
      have y2 : F' 194 (x + 67) = nI (s.2.2.2.2 + 1) := by
        have := a1.2.1
        rw [this]
        exact congrArg nI ep
      simp only [tl_none, e137_0, e137_1, e137_4, e137_7, e137_8, e137_9, e137_12, e137_13, e137_14, e137_17, e137_20, e137_21, e137_24, e137_25, e137_26, e137_29, e137_30, e137_31, e137_34, e137_35, e137_38, e137_41, e137_42, e137_43, e137_46, e137_49, e137_50, e137_51, e137_54, k0, f453, s2.1, rf_some, y2, nI_pred, true_and]
      refine ⟨by simp, c_answer hS ?_⟩
      simp only [tl_some, e137_0, e137_1, e137_4, e137_7, e137_8, e137_9, e137_12, e137_13, e137_14, e137_17, e137_20, e137_21, e137_24, e137_25, e137_26, e137_29, e137_30, e137_31, e137_34, e137_35, e137_38, e137_41, e137_42, e137_43, e137_46, e137_49, e137_50, e137_51, e137_54]
      refine ivQ (s' := (s.1, s.2.1, s.2.2.1, pushE s.2.2.2.1 s.2.2.2.2 3 s.2.1)) hS (CInv.act hI (s' := (s.1, s.2.1, s.2.2.1, pushE s.2.2.2.1 s.2.2.2.2 3 s.2.1)) (hC.fr fr (by omega) (by omega)) ?_ hE ?_ (ShV.of s2 a1 (pushE_ok (by decide) hM1.1 hM.2 hE)) ?_ ?_) (fun a ha => ⟨fun f => ⟨?_, rfl, rfl⟩, ?_, rfl⟩) hQ ?_
      · intro r hr
        rw [ax _ (by omega), ax _ (by omega)]
        exact hSP r hr
      · exact hA.fr s1 (a2 _ _ (Or.inl (by omega))) (a2 _ _ (Or.inl (by omega))) (fun i hi => by have := s1' i hi; exact ax _ (by omega))
      · intro f; exact a2 f x (Or.inl (by omega))
      · exact ax _ (by omega)
      · exact a2 f a (Or.inl (by omega))
      · exact ax _ (by omega)
      · unfold sp_mark; rw [es]; simp only []; rw [if_pos y']
    · simp only [tl_some, e137_0, e137_1, e137_4, e137_7, e137_8, e137_9, e137_12, e137_13, e137_14, e137_17, e137_20, e137_21, e137_24, e137_25, e137_26, e137_29, e137_30, e137_31, e137_34, e137_35, e137_38, e137_41, e137_42, e137_43, e137_46, e137_49, e137_50, e137_51, e137_54]
      exact irQ hS hI hQ (k := 3) (by decide) (by unfold sp_mark; rw [es]; simp only []; rw [if_neg (fun q => y (nI_lt (b := 3) q (by decide)))])
  · simp only [tl_some, e137_0, e137_1, e137_4, e137_7, e137_8, e137_9, e137_12, e137_13, e137_14, e137_17, e137_20, e137_21, e137_24, e137_25, e137_26, e137_29, e137_30, e137_31, e137_34, e137_35, e137_38, e137_41, e137_42, e137_43, e137_46, e137_49, e137_50, e137_51, e137_54]
    refine irQ hS hI hQ (k := 1) (by decide) ?_
    unfold sp_mark
    cases e : gW P with
    | none => rfl
    | some s => rw [e] at z; exact absurd (fun h => by cases h) z
end
