def setW (P : PG) (s : WS) : PG := (P.1, P.2.1, some s, P.2.2.2.1, P.2.2.2.2.1, P.2.2.2.2.2)
/-- an act: denied, or granted with the wall as it then is -/
def av (r : Nat ⊕ WS) : Int32 := match r with
  | .inl _ => 0
  | .inr _ => 1
def as' (P : PG) (r : Nat ⊕ WS) : PG := match r with
  | .inl k => setTr P k
  | .inr s => setTr (setW P s) 0
def keepA (s : WS) (e : StK) : WS := (s.1, e, pushE s.2.2.1.1 s.2.2.1.2 12 s.2.1, s.2.2.2)
def sp_paste (P : PG) (b u v r : Int32) : Nat ⊕ WS := match gW P with
  | none => .inl 1
  | some s => if isB P b = true ∧ isRv P r = true then (match sCor P b u v with
    | none => .inl 2
    | some c => if shN P r = 0 then .inl 6 else if mayAt s.1 s.2.1.1 s.2.1.2.1 b.toNatClampNeg c then .inr (keepA s (puth s.2.1.1 s.2.1.2.1 (b.toNatClampNeg, c % wW s.1, c / wW s.1, r), s.2.1.2.1 + 1, upN s.2.1.2.2.1 r.toNatClampNeg (s.2.1.2.2.1 r.toNatClampNeg - 1), s.2.1.2.2.2)) else .inl 5) else .inl 1
def sp_peel (P : PG) : Nat ⊕ WS := match gW P with
  | none => .inl 6
  | some s => if s.2.1.2.1 ≤ wF s.1 then .inl 6 else .inr (keepA s (s.2.1.1, s.2.1.2.1 - 1, s.2.1.2.2))
def sp_tear (P : PG) (i : Int32) : Nat ⊕ WS := match gW P with
  | none => .inl 1
  | some s => if isHg P i then (if i.toNatClampNeg < wF s.1 then .inl 5 else .inr (keepA s (dropH s.2.1.1 i.toNatClampNeg, s.2.1.2.1 - 1, s.2.1.2.2))) else .inl 1
def sp_scrape (P : PG) : Nat ⊕ WS := match gW P with
  | none => .inl 1
  | some s => .inr (keepA s (s.2.1.1, wF s.1, s.2.1.2.2))
def sp_undo (P : PG) : Nat ⊕ WS := match gW P with
  | none => .inl 6
  | some s => if s.2.2.1.2 = 0 then .inl 6 else .inr (s.1, s.2.2.1.1 (s.2.2.1.2 - 1), (s.2.2.1.1, s.2.2.1.2 - 1), s.2.2.2)
def sp_back (P : PG) (k : Int32) : Nat ⊕ WS := match gW P with
  | none => .inl 1
  | some s => if 0 ≤ k ∧ k < nI s.2.2.2.2 then .inr (s.1, s.2.2.2.1 k.toNatClampNeg, (s.2.2.1.1, 0), s.2.2.2) else .inl 1
section
variable {sa : Nat → Nat} {d n t h m : Nat} {Q : mj_Q} {K : Nat → Nat × Nat} {FI : Nat → Nat → Int32} {FL : Nat → Nat → Int64} {FR : Nat → Nat → Option Nat} {AI : Nat → Nat → Int32} {AL : Nat → Nat → Int64} {AR : Nat → Nat → Option Nat} {w : Wl} {hs : Nat → Hg}
variable {x o : Nat} {P : PG}
theorem ShV.of {s e R : Nat} {g : Nat → Nat} {E : (Nat → StK) × Nat} (hs : ShelfS K FR AR s e g R) (hr : ShelfR FI AI s g R w E.1 E.2) (hk : ∀ i, i < E.2 → eOK w (E.1 i)) : ShV K FR AR FI AI s R w E := by
  refine ⟨fun e' g' hs' => ?_, hk⟩
  have ege : e = e' := by have z1 := hs.2.1; have z2 := hs'.2.1; rw [z1] at z2; exact Option.some.inj z2
  subst ege
  have egg : ∀ i, i < R → g' i = g i := fun i hi => by
    have z1 := (hs.2.2.2.2.2.1 i hi).1
    have z2 := (hs'.2.2.2.2.2.1 i hi).1
    rw [z1] at z2
    exact (Option.some.inj z2).symm
  obtain ⟨c1, c2, old, c3, c4, c5⟩ := hr
  refine ⟨c1, c2, old, c3, c4, fun i hi => ?_⟩
  rw [egg _ (Nat.mod_lt _ hs.2.2.2.1)]
  exact c5 i hi
theorem ShV.fr {FI' AI' : Nat → Nat → Int32} {s e R : Nat} {g : Nat → Nat} {E : (Nat → StK) × Nat} (hV : ShV K FR AR FI AI s R w E) (hs : ShelfS K FR AR s e g R) (f1 : FI' 193 s = FI 193 s) (f2 : FI' 194 s = FI 194 s) (ha : ∀ i, i < R → AI' (g i) = AI (g i)) : ShV K FR AR FI' AI' s R w E := by
  obtain ⟨c1, c2, old, c3, c4, c5⟩ := hV.1 e g hs
  refine ShV.of hs ⟨c1, by rw [f2]; exact c2, old, c3, by rw [f1]; exact c4, fun i hi => ?_⟩ hV.2
  rw [ha _ (Nat.mod_lt _ hs.2.2.2.1)]
  exact c5 i hi
theorem CInv.act {FI' AI' : Nat → Nat → Int32} {AL' : Nat → Nat → Int64} {s' : WS} (hI : CInv x o P K FR AR FI AI AL) (hC : HC K FR FI' AI' AL' o (o + 1) s'.1 s'.2.1.1 s'.2.1.2.1) (hSP : SP AI' o s'.2.1.2.2.1 s'.2.1.2.2.2) (hE : eOK s'.1 s'.2.1) (hA : ShV K FR AR FI' AI' (x + 53) 12 s'.1 s'.2.2.1) (hM : ShV K FR AR FI' AI' (x + 67) 3 s'.1 s'.2.2.2) (fx : ∀ f, FI' f x = FI f x) (ax : AI' (x + 1) = AI (x + 1)) : CInv x o (setW P s') K FR AR FI' AI' AL' := by
  obtain ⟨⟨a1, a2, a3, a4, a5, a6, a7⟩, -⟩ := hI
  exact ⟨⟨by rw [ax]; exact a1, by rw [fx]; exact a2, a3, by rw [fx]; exact a4, by rw [fx]; exact a5, by rw [fx]; exact a6, a7⟩, hC, hSP, hE, hA, hM⟩
theorem pushE_ok {E : (Nat → StK) × Nat} {e : StK} {R : Nat} (hR : 0 < R) (hc : E.2 ≤ R) (h1 : ∀ i, i < E.2 → eOK w (E.1 i)) (h2 : eOK w e) : ∀ i, i < (pushE E.1 E.2 R e).2 → eOK w ((pushE E.1 E.2 R e).1 i) := by
  intro i hi
  unfold pushE at hi ⊢
  split at hi
  · next z =>
    simp only [z, if_true] at hi ⊢
    by_cases q : i = E.2
    · subst q; rw [upN_s]; exact h2
    · rw [upN_o q]; exact h1 i (by omega)
  · next z =>
    simp only [z, if_false] at hi ⊢
    split
    · exact h2
    · exact h1 _ (by omega)
/-- the state is kept ahead of an act -/
theorem c_keepP (hS : CSt K FR AR x o h) (hI : CInv x o P K FR AR FI AI AL) {s : WS} (es : gW P = some s) (hQ : ∀ FI' AI' : Nat → Nat → Int32, HC K FR FI' AI' AL o (o + 1) s.1 s.2.1.1 s.2.1.2.1 → SP AI' o s.2.1.2.2.1 s.2.1.2.2.2 → ShV K FR AR FI' AI' (x + 53) 12 s.1 (pushE s.2.2.1.1 s.2.2.1.2 12 s.2.1) → ShV K FR AR FI' AI' (x + 67) 3 s.1 s.2.2.2 → FIx FI FI' (x + 53) [193, 194] → AIx AI AI' (x + 54) (x + 66) → Q none (n, K, FI', FL, FR, AI', AL, AR)) : EV sa (d + 2) 47 [.ref (x + 53), .ref o] (n, K, FI, FL, FR, AI, AL, AR) Q := by
  have hno := hS.now
  obtain ⟨-, -, -, -, -, -, -, -, -, -, -, ⟨e1, g1, s1, s1'⟩, ⟨e2, g2, s2, s2'⟩, -, -⟩ := id hS
  obtain ⟨hC, hSP, hE, hA, hM⟩ := hI.hc es
  have hA1 := hA.1 e1 g1 s1
  refine c_keep s1 hA1 (by omega) hC.1 hC.2.2.2.2.2.1 hSP (fun k hk => (hE.2.2.1 k hk).2) (fun i hi => by have := s1' i hi; omega) fun F' A' a1 a2 a3 => ?_
  have ax : AIx AI A' (x + 54) (x + 66) := fun q hq => a3 q (fun i hi => by have := s1' i hi; omega)
  have fr : Fr (x + 53) (x + 66) FI F' AI A' AL AL := fun a ha => ⟨fun f => a2 f a (Or.inl (by omega)), ax a (by omega), rfl⟩
  refine hQ F' A' (hC.fr fr (by omega) (by omega)) (fun r hr => ?_) (ShV.of s1 a1 (pushE_ok (by decide) hA1.1 hA.2 hE)) (hM.fr s2 (a2 _ _ (Or.inl (by omega))) (a2 _ _ (Or.inl (by omega))) (fun i hi => by have := s2' i hi; exact ax _ (by omega))) a2 ax
  rw [ax _ (by omega), ax _ (by omega)]
  exact hSP r hr
/-- the end of an act -/
theorem grQ {sp : Nat ⊕ WS} {F A : Nat → Nat → Int32} {L : Nat → Nat → Int64} {s' : WS} (hS : CSt K FR AR x o h) (hI : CInv x o (setW P s') K FR AR F A L) (hX : ∀ a, (a < x ∨ x + 119 < a) → (∀ f, F f a = FI f a ∧ FL f a = FL f a ∧ FR f a = FR f a) ∧ A a = AI a ∧ L a = AL a) (hQ : ∀ μ', InvC x (as' P sp) μ' → FrC x (n, K, FI, FL, FR, AI, AL, AR) μ' → Q (some (.int (av sp))) μ') (e : sp = .inr s') : Q (some (.int 1)) (n, K, mj_u2 F 456 x 0, FL, FR, A, L, AR) := by
  have f := finC (n := n) (FI := FI) (FL := FL) (FR := FR) (AI := AI) (AL := AL) (G := FL) hS hI hX (show 0 ≤ 7 by decide)
  subst e
  exact hQ _ f.1 f.2
theorem dnQ {sp : Nat ⊕ WS} (hS : CSt K FR AR x o h) (hI : CInv x o P K FR AR FI AI AL) (hQ : ∀ μ', InvC x (as' P sp) μ' → FrC x (n, K, FI, FL, FR, AI, AL, AR) μ' → Q (some (.int (av sp))) μ') {k : Nat} (hk : k ≤ 7) (e : sp = .inl k) : Q (some (.int 0)) (n, K, mj_u2 FI 456 x (nI k), FL, FR, AI, AL, AR) := by
  have f := finC (n := n) (FI := FI) (FL := FL) (FR := FR) (AI := AI) (AL := AL) (G := FL) hS hI (fun a _ => ⟨fun _ => ⟨rfl, rfl, rfl⟩, rfl, rfl⟩) hk
  subst e
  exact hQ _ f.1 f.2
theorem eOK.cut {e : StK} {m' : Nat} (h : eOK w e) (h1 : wF w ≤ m') (h2 : m' ≤ e.2.1) : eOK w (e.1, m', e.2.2) := ⟨h1, Nat.le_trans h2 h.2.1, fun k hk => h.2.2.1 k (Nat.lt_of_lt_of_le hk h2), h.2.2.2⟩
end
section
variable {sa : Nat → Nat} {d n t h m : Nat} {Q : mj_Q} {K : Nat → Nat × Nat} {FI : Nat → Nat → Int32} {FL : Nat → Nat → Int64} {FR : Nat → Nat → Option Nat} {AI : Nat → Nat → Int32} {AL : Nat → Nat → Int64} {AR : Nat → Nat → Option Nat} {w : Wl} {hs : Nat → Hg}
variable {x : Nat} {P : PG}
theorem c_peel (hV : InvC x P (n, K, FI, FL, FR, AI, AL, AR)) (hQ : ∀ μ', InvC x (as' P (sp_peel P)) μ' → FrC x (n, K, FI, FL, FR, AI, AL, AR) μ' → Q (some (.int (av (sp_peel P)))) μ') : EV sa (d + 3) 118 [.ref x] (n, K, FI, FL, FR, AI, AL, AR) Q := by
  obtain ⟨o, h, hS, hI⟩ := hV
  replace hS : CSt K FR AR x o h := hS
  replace hI : CInv x o P K FR AR FI AI AL := hI
  obtain ⟨k0, -, f450, -, f452, f453, f454, f455, -, ⟨hH, hT, ht⟩, -, ⟨e1, g1, s1, s1'⟩, ⟨e2, g2, s2, s2'⟩, hRow, hOrd⟩ := id hS
  have hno := hS.now
  obtain ⟨-, x1, x2, h30, -⟩ := hI.told
  refine n118 k0 ?_
  simp only [e118_0, e118_1, e118_4, e118_7, e118_8, e118_11, e118_14, e118_17, e118_18, e118_20, e118_23, e118_24, e118_25, e118_28, e118_29, e118_32, e118_35, e118_36, e118_39, e118_40, e118_43, e118_46, e118_47, e118_48, e118_51, e118_52, e118_55, k0, f450, f452, hH.1, rf_some, x1, x2, true_and]
  have wFle : wF (pW P) ≤ 30 := by
    cases e : gW P with
    | none => unfold pW; rw [e]; decide
    | some s => rw [(pW_some e).1]; exact Nat.le_trans (hI.hc e).2.2.1.1 (hI.hc e).2.2.1.2.1
  refine ⟨fun z => ⟨by simp, ?_⟩, fun z => ⟨by simp, c_deny hS ?_⟩⟩
  · have z' : wF (pW P) < pM P := (nI_ltI (by omega) (by omega)).mp z
    obtain ⟨s, es⟩ := wall_of (P := P) (Or.inr (Or.inr (Or.inl (by omega))))
    obtain ⟨p1, p2⟩ := pW_some es
    have em : pM P = s.2.1.2.1 := by unfold pM; rw [p2]
    rw [em, p1] at z'
    obtain ⟨m', hm'⟩ : ∃ m', s.2.1.2.1 = m' + 1 := ⟨s.2.1.2.1 - 1, by omega⟩
    refine c_keepP hS hI es fun F1 A1 b1 b2 b3 b4 b5 b6 => ?_
    have y1 : F1 1 o = nI (m' + 1) := by rw [b1.2.2.2.2.2.1.1, hm']
    simp only [tl_none, e118_0, e118_1, e118_4, e118_7, e118_8, e118_11, e118_14, e118_17, e118_18, e118_20, e118_23, e118_24, e118_25, e118_28, e118_29, e118_32, e118_35, e118_36, e118_39, e118_40, e118_43, e118_46, e118_47, e118_48, e118_51, e118_52, e118_55, k0, f450, hH.1, rf_some, y1, nI_pred, true_and]
    refine ⟨by simp, C_cutTo (m' := m') b1 (by omega) fun F2 A2 c1 c2 c3 => ?_⟩
    simp only [tl_none, e118_0, e118_1, e118_4, e118_7, e118_8, e118_11, e118_14, e118_17, e118_18, e118_20, e118_23, e118_24, e118_25, e118_28, e118_29, e118_32, e118_35, e118_36, e118_39, e118_40, e118_43, e118_46, e118_47, e118_48, e118_51, e118_52, e118_55]
    refine ⟨by simp, c_grant hS ?_⟩
    simp only [tl_some, e118_0, e118_1, e118_4, e118_7, e118_8, e118_11, e118_14, e118_17, e118_18, e118_20, e118_23, e118_24, e118_25, e118_28, e118_29, e118_32, e118_35, e118_36, e118_39, e118_40, e118_43, e118_46, e118_47, e118_48, e118_51, e118_52, e118_55, or_true, true_and]
    have hE := (hI.hc es).2.2.1
    refine grQ (s' := keepA s (s.2.1.1, s.2.1.2.1 - 1, s.2.1.2.2)) hS (CInv.act hI (s' := keepA s (s.2.1.1, s.2.1.2.1 - 1, s.2.1.2.2)) ?_ ?_ (hE.cut (by omega) (by omega)) ?_ ?_ ?_ ?_) (fun a ha => ⟨fun f => ⟨?_, rfl, rfl⟩, ?_, rfl⟩) hQ ?_
    · rw [show s.2.1.2.1 - 1 = m' by omega]; exact c1
    · intro r hr
      rw [c3 _ (by omega), c3 _ (by omega)]
      exact b2 r hr
    · exact b3.fr s1 (c2 _ _ (Or.inl (by omega))) (c2 _ _ (Or.inl (by omega))) (fun i hi => by have := s1' i hi; exact c3 _ (by omega))
    · exact b4.fr s2 (c2 _ _ (Or.inl (by omega))) (c2 _ _ (Or.inl (by omega))) (fun i hi => by have := s2' i hi; exact c3 _ (by omega))
    · intro f; rw [c2 f x (Or.inl (by omega)), b5 f x (Or.inl (by omega))]
    · rw [c3 _ (by omega), b6 _ (by omega)]
    · rw [c2 f a (Or.inl (by omega)), b5 f a (Or.inl (by omega))]
    · rw [c3 _ (by omega), b6 _ (by omega)]
    · unfold sp_peel; rw [es]; simp only []; rw [if_neg (by omega)]
  · simp only [tl_some, e118_0, e118_1, e118_4, e118_7, e118_8, e118_11, e118_14, e118_17, e118_18, e118_20, e118_23, e118_24, e118_25, e118_28, e118_29, e118_32, e118_35, e118_36, e118_39, e118_40, e118_43, e118_46, e118_47, e118_48, e118_51, e118_52, e118_55, true_or, true_and]
    refine dnQ hS hI hQ (k := 6) (by decide) ?_
    unfold sp_peel
    cases e : gW P with
    | none => rfl
    | some s =>
      obtain ⟨p1, p2⟩ := pW_some e
      have em : pM P = s.2.1.2.1 := by unfold pM; rw [p2]
      simp only []
      rw [if_pos]
      rw [← em, ← p1]
      rcases Nat.lt_or_ge (wF (pW P)) (pM P) with q | q
      · exact absurd (nI_lt q (by omega)) z
      · exact q
theorem c_scrape (hV : InvC x P (n, K, FI, FL, FR, AI, AL, AR)) (hQ : ∀ μ', InvC x (as' P (sp_scrape P)) μ' → FrC x (n, K, FI, FL, FR, AI, AL, AR) μ' → Q (some (.int (av (sp_scrape P)))) μ') : EV sa (d + 3) 120 [.ref x] (n, K, FI, FL, FR, AI, AL, AR) Q := by
  obtain ⟨o, h, hS, hI⟩ := hV
  replace hS : CSt K FR AR x o h := hS
  replace hI : CInv x o P K FR AR FI AI AL := hI
  obtain ⟨k0, -, f450, -, f452, f453, f454, f455, -, ⟨hH, hT, ht⟩, -, ⟨e1, g1, s1, s1'⟩, ⟨e2, g2, s2, s2'⟩, hRow, hOrd⟩ := id hS
  have hno := hS.now
  refine n120 k0 ?_
  simp only [e120_0, e120_1, e120_4, e120_7, e120_8, e120_9, e120_12, e120_13, e120_14, e120_17, e120_18, e120_21, e120_24, e120_25, e120_28, e120_29, e120_32, e120_35, e120_38, e120_39, e120_42]
  refine ⟨by simp, c_hasWall hS hI ?_⟩
  simp only [tl_some, e120_0, e120_1, e120_4, e120_7, e120_8, e120_9, e120_12, e120_13, e120_14, e120_17, e120_18, e120_21, e120_24, e120_25, e120_28, e120_29, e120_32, e120_35, e120_38, e120_39, e120_42, k0, f450, f452, rf_some, true_and, bI_eq0]
  refine ⟨fun z => ⟨by simp, ?_⟩, fun z => ⟨by simp, c_deny hS ?_⟩⟩
  · obtain ⟨s, es⟩ := Option.isSome_iff_exists.mp (ts_nf z)
    have hE := (hI.hc es).2.2.1
    refine c_keepP hS hI es fun F1 A1 b1 b2 b3 b4 b5 b6 => ?_
    have y1 : F1 2 o = nI (wF s.1) := b1.2.2.2.2.2.1.2.2.1
    simp only [tl_none, e120_0, e120_1, e120_4, e120_7, e120_8, e120_9, e120_12, e120_13, e120_14, e120_17, e120_18, e120_21, e120_24, e120_25, e120_28, e120_29, e120_32, e120_35, e120_38, e120_39, e120_42, k0, f450, hH.1, rf_some, y1, true_and]
    refine ⟨by simp, C_cutTo (m' := wF s.1) b1 hE.1 fun F2 A2 c1 c2 c3 => ?_⟩
    simp only [tl_none, e120_0, e120_1, e120_4, e120_7, e120_8, e120_9, e120_12, e120_13, e120_14, e120_17, e120_18, e120_21, e120_24, e120_25, e120_28, e120_29, e120_32, e120_35, e120_38, e120_39, e120_42]
    refine ⟨by simp, c_grant hS ?_⟩
    simp only [tl_some, e120_0, e120_1, e120_4, e120_7, e120_8, e120_9, e120_12, e120_13, e120_14, e120_17, e120_18, e120_21, e120_24, e120_25, e120_28, e120_29, e120_32, e120_35, e120_38, e120_39, e120_42, or_true, true_and]
    refine grQ (s' := keepA s (s.2.1.1, wF s.1, s.2.1.2.2)) hS (CInv.act hI (s' := keepA s (s.2.1.1, wF s.1, s.2.1.2.2)) c1 ?_ (hE.cut (Nat.le_refl _) hE.1) ?_ ?_ ?_ ?_) (fun a ha => ⟨fun f => ⟨?_, rfl, rfl⟩, ?_, rfl⟩) hQ ?_
    · intro r hr
      rw [c3 _ (by omega), c3 _ (by omega)]
      exact b2 r hr
    · exact b3.fr s1 (c2 _ _ (Or.inl (by omega))) (c2 _ _ (Or.inl (by omega))) (fun i hi => by have := s1' i hi; exact c3 _ (by omega))
    · exact b4.fr s2 (c2 _ _ (Or.inl (by omega))) (c2 _ _ (Or.inl (by omega))) (fun i hi => by have := s2' i hi; exact c3 _ (by omega))
    · intro f; rw [c2 f x (Or.inl (by omega)), b5 f x (Or.inl (by omega))]
    · rw [c3 _ (by omega), b6 _ (by omega)]
    · rw [c2 f a (Or.inl (by omega)), b5 f a (Or.inl (by omega))]
    · rw [c3 _ (by omega), b6 _ (by omega)]
    · unfold sp_scrape; rw [es]
  · simp only [tl_some, e120_0, e120_1, e120_4, e120_7, e120_8, e120_9, e120_12, e120_13, e120_14, e120_17, e120_18, e120_21, e120_24, e120_25, e120_28, e120_29, e120_32, e120_35, e120_38, e120_39, e120_42, true_or, true_and]
    refine dnQ hS hI hQ (k := 1) (by decide) ?_
    unfold sp_scrape
    cases e : gW P with
    | none => rfl
    | some s => rw [e] at z; exact absurd (fun h => by cases h) z
end
