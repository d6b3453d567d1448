def sp_on (P : PG) (b u v : Int32) : Nat ⊕ Int32 := if isB P b then (match sCor P b u v with
  | none => .inl 2
  | some c => .inr (nI (lies (pW P) (pHs P) (pM P) b.toNatClampNeg (c % wW (pW P)) (c / wW (pW P)) (wB (pW P))))) else .inl 1
def sp_may (P : PG) (b u v : Int32) : Nat ⊕ Int32 := if isB P b then (match sCor P b u v with
  | none => .inl 2
  | some c => .inr (bI (mayAt (pW P) (pHs P) (pM P) b.toNatClampNeg c))) else .inl 1
def sp_places (P : PG) (b : Int32) : Nat ⊕ Int32 := if isB P b then .inr (nI (ct (fun c => mayAt (pW P) (pHs P) (pM P) b.toNatClampNeg c) (wW (pW P) * wH (pW P)))) else .inl 1
def sp_place (P : PG) (b i : Int32) : Nat ⊕ Int32 := if isB P b then (match fnd (fun c => mayAt (pW P) (pHs P) (pM P) b.toNatClampNeg c && decide (i = nI (ct (fun c => mayAt (pW P) (pHs P) (pM P) b.toNatClampNeg c) c))) (wW (pW P) * wH (pW P)) with
  | none => .inl 1
  | some c => .inr (nI c)) else .inl 1
def sp_full (P : PG) : Nat ⊕ Int32 := if (gW P).isSome then .inr (bI (isFullP (pW P) (pHs P) (pM P))) else .inl 1
def sp_table (P : PG) (b k : Int32) (hang : Bool) : Nat ⊕ Int32 := if isB P b then (if 0 ≤ k ∧ k ≤ 5 then .inr (nI (ct (fun c => couldAt (pW P) (pHs P) (pM P) b.toNatClampNeg c k.toNatClampNeg hang) (wW (pW P) * wH (pW P)))) else .inl 2) else .inl 1
def sp_reads (P : PG) (v : Int32) : Nat ⊕ Int32 := if isWo P v then .inr (nI (reads (pW P) (pHs P) (pM P) v.toNatClampNeg)) else .inl 1
def rdAt (P : PG) (v : Nat) : Option Nat := fnd (fun c => stand (pW P) (pHs P) (pM P) v c) (wW (pW P) * wH (pW P))
def sp_readAt (P : PG) (v : Int32) : Nat ⊕ Int32 := if isWo P v then .inr (oI (rdAt P v.toNatClampNeg) (-2)) else .inl 1
def sp_readBy (P : PG) (v i : Int32) : Nat ⊕ Int32 := if isWo P v = true ∧ 0 ≤ i ∧ i < nI (wWL (pW P) v.toNatClampNeg) then (match rdAt P v.toNatClampNeg with
  | none => .inl 6
  | some c => .inr (oI (tp (pW P) (pHs P) (pM P) (c + i.toNatClampNeg)) (-2))) else .inl 1
def sp_makes (P : PG) (b : Int32) : Nat ⊕ Int32 := if isB P b then .inr (nI (ct (fun c => makesAt (pW P) (pHs P) (pM P) b.toNatClampNeg c) (wW (pW P) * wH (pW P)))) else .inl 1
theorem sCor_some {P : PG} {b u v : Int32} {c : Nat} (h : sCor P b u v = some c) : sCell P u v = some c ∧ onAt (pW P) b.toNatClampNeg c = true := by
  unfold sCor at h
  cases e : sCell P u v with
  | none => rw [e] at h; cases h
  | some c' =>
    rw [e] at h
    simp only [] at h
    split at h
    · next z => cases h; exact ⟨rfl, z⟩
    · cases h
section
variable {sa : Nat → Nat} {d n t h m : Nat} {Q : mj_Q} {K : Nat → Nat × Nat} {FI : Nat → Nat → Int32} {FL : Nat → Nat → Int64} {FR : Nat → Nat → Option Nat} {AI : Nat → Nat → Int32} {AL : Nat → Nat → Int64} {AR : Nat → Nat → Option Nat} {w : Wl} {hs : Nat → Hg}
variable {x : Nat} {P : PG}
theorem isB_wall (hI : CInv x h P K FR AR FI AI AL) {b : Int32} (hb : isB P b = true) : ∃ s, gW P = some s ∧ b = nI b.toNatClampNeg ∧ b.toNatClampNeg < wNB s.1 ∧ pW P = s.1 ∧ pHs P = s.2.1.1 ∧ pM P = s.2.1.2.1 := by
  have h4 := hI.told.2.2.2.2.1
  obtain ⟨e1, e2⟩ := rng_of (N := wNB (pW P)) (by omega) (by simpa [isB] using hb)
  obtain ⟨s, es⟩ := wall_of (P := P) (Or.inr (Or.inl (by omega)))
  obtain ⟨p1, p2⟩ := pW_some es
  refine ⟨s, es, e1, by rw [← p1]; exact e2, p1, ?_, ?_⟩
  · unfold pHs; rw [p2]
  · unfold pM; rw [p2]
theorem isW_wall (hI : CInv x h P K FR AR FI AI AL) {b : Int32} (hb : isWo P b = true) : ∃ s, gW P = some s ∧ b = nI b.toNatClampNeg ∧ b.toNatClampNeg < wNW s.1 ∧ pW P = s.1 ∧ pHs P = s.2.1.1 ∧ pM P = s.2.1.2.1 := by
  have h4 := hI.told.2.2.2.2.2.2.1
  obtain ⟨e1, e2⟩ := rng_of (N := wNW (pW P)) (by omega) (by simpa [isWo] using hb)
  obtain ⟨s, es⟩ := wall_of (P := P) (Or.inr (Or.inr (Or.inr (by omega))))
  obtain ⟨p1, p2⟩ := pW_some es
  refine ⟨s, es, e1, by rw [← p1]; exact e2, p1, ?_, ?_⟩
  · unfold pHs; rw [p2]
  · unfold pM; rw [p2]
theorem c_on (hV : InvC x P (n, K, FI, FL, FR, AI, AL, AR)) {b u v : Int32} (hQ : ∀ μ', InvC x (rs P (sp_on P b u v)) μ' → FrC x (n, K, FI, FL, FR, AI, AL, AR) μ' → Q (some (.int (rv (sp_on P b u v)))) μ') : EV sa (d + 3) 111 [.ref x, .int b, .int u, .int v] (n, K, FI, FL, FR, AI, AL, AR) Q := by
  obtain ⟨o, h, hS, hI⟩ := hV
  replace hS : CSt K FR AR x o h := hS
  replace hI : CInv x o P K FR AR FI AI AL := hI
  obtain ⟨k0, -, f450, -, -, -, -, -, -, ⟨hH, hT, ht⟩, -⟩ := id hS
  obtain ⟨-, -, -, -, -, -, -, h8, h4⟩ := hI.told
  refine n111 k0 ?_
  simp only [e111_0, e111_1, e111_2, e111_5, e111_8, e111_9, e111_10, e111_13, e111_14, e111_15, e111_18, e111_21, e111_22, e111_23, e111_24, e111_27, e111_29, e111_31, e111_34, e111_35, e111_36, e111_39, e111_40, e111_41, e111_42, e111_45, e111_46, e111_49, e111_52, e111_53, e111_55, e111_58, e111_59, e111_62, e111_65, e111_68, e111_70, e111_73, e111_76]
  refine ⟨by simp, c_isBill hS hI ?_⟩
  simp only [tl_some, e111_0, e111_1, e111_2, e111_5, e111_8, e111_9, e111_10, e111_13, e111_14, e111_15, e111_18, e111_21, e111_22, e111_23, e111_24, e111_27, e111_29, e111_31, e111_34, e111_35, e111_36, e111_39, e111_40, e111_41, e111_42, e111_45, e111_46, e111_49, e111_52, e111_53, e111_55, e111_58, e111_59, e111_62, e111_65, e111_68, e111_70, e111_73, e111_76, k0, f450, hH.1, ht, rf_some, true_and, bI_eq0]
  refine ⟨fun z => ⟨by simp, ?_⟩, fun z => ⟨by simp, c_refuse hS ?_⟩⟩
  · have hb := ts_nf z
    obtain ⟨s, es, eb, hb4, p1, p2, p3⟩ := isB_wall hI hb
    have hC := (hI.hc es).1
    have hw := hC.2.2.2.1
    have hn4 := hw.2.2.2.1
    refine c_cornerAtP hS hI hb ?_
    simp only [tl_some, e111_0, e111_1, e111_2, e111_5, e111_8, e111_9, e111_10, e111_13, e111_14, e111_15, e111_18, e111_21, e111_22, e111_23, e111_24, e111_27, e111_29, e111_31, e111_34, e111_35, e111_36, e111_39, e111_40, e111_41, e111_42, e111_45, e111_46, e111_49, e111_52, e111_53, e111_55, e111_58, e111_59, e111_62, e111_65, e111_68, e111_70, e111_73, e111_76, k0, f450, hH.1, ht, rf_some, true_and, mj_kl]
    cases hc : sCor P b u v with
    | none =>
      simp only [oI]
      refine ⟨fun y => absurd y (by decide), fun _ => ⟨by simp, c_refuse hS ?_⟩⟩
      simp only [tl_some, e111_0, e111_1, e111_2, e111_5, e111_8, e111_9, e111_10, e111_13, e111_14, e111_15, e111_18, e111_21, e111_22, e111_23, e111_24, e111_27, e111_29, e111_31, e111_34, e111_35, e111_36, e111_39, e111_40, e111_41, e111_42, e111_45, e111_46, e111_49, e111_52, e111_53, e111_55, e111_58, e111_59, e111_62, e111_65, e111_68, e111_70, e111_73, e111_76]
      exact refQ hS hI hQ (k := 2) (by decide) (by unfold sp_on; rw [if_pos hb, hc])
    | some c =>
      obtain ⟨hc1, hc2⟩ := sCor_some hc
      have c32 := (sCell_lt h8 h4 hc1).2
      rw [p1] at hc2
      have ho : onW s.1 b.toNatClampNeg (c % wW s.1) (c / wW s.1) := by
        simp only [onAt, decide_eq_true_eq] at hc2
        exact ⟨hb4, hc2.1, hc2.2⟩
      have hbin : vp_in b 4 := by rw [eb]; exact vp_in_nI (by omega) (by decide)
      have hMk : Mk (AI (o + 1 + 5) b.toNatClampNeg <<< (nI c &&& 31)) (cov s.1 b.toNatClampNeg (c % wW s.1) (c / wW s.1)) := by
        have := Mk.cells hw ho (hC.2.2.2.2.1.2.1 _ hb4).2.2.2.2.1
        rwa [Nat.div_add_mod] at this
      simp only [oI]
      refine ⟨fun _ => ⟨by simp, c_cellsOf hT hbin ?_⟩, fun y => absurd (nI_pos' (by omega)) y⟩
      obtain ⟨r1, r2, -, -, r5⟩ := id hC.2.2.2.2.2.1
      have xB : FI 387 (o + 1) = bI (wB s.1) := hC.2.2.2.2.1.1.2.2.2.1
      simp only [tl_some, e111_0, e111_1, e111_2, e111_5, e111_8, e111_9, e111_10, e111_13, e111_14, e111_15, e111_18, e111_21, e111_22, e111_23, e111_24, e111_27, e111_29, e111_31, e111_34, e111_35, e111_36, e111_39, e111_40, e111_41, e111_42, e111_45, e111_46, e111_49, e111_52, e111_53, e111_55, e111_58, e111_59, e111_62, e111_65, e111_68, e111_70, e111_73, e111_76, k0, f450, hH.1, ht, hT.1, rf_some, xB, true_and]
      refine ⟨by simp, c_liesOn (en := 30) hH r1 r2 (by decide) (p := fun j => ex (fun cc => cov s.1 b.toNatClampNeg (c % wW s.1) (c / wW s.1) cc && (if wB s.1 then covg s.1 (s.2.1.1 j) cc else tp s.1 s.2.1.1 s.2.1.2.1 cc == some j)) 32) ?_ fun fd hfd1 hfd2 => ?_⟩
      · intro j hj
        obtain ⟨-, -, -, -, g5, g6⟩ := r5 j hj
        cases hB : wB s.1 with
        | true =>
          simp only [if_true]
          rw [(g5.and hMk).eq0, ex_congr (fun cc _ => Bool.and_comm _ _)]
        | false =>
          simp only [Bool.false_eq_true, if_false]
          rw [(g6.and hMk).eq0, ex_congr (fun cc _ => Bool.and_comm _ _)]
      · have hl : lies s.1 s.2.1.1 s.2.1.2.1 b.toNatClampNeg (c % wW s.1) (c / wW s.1) (wB s.1) = ct (fun j => ex (fun cc => cov s.1 b.toNatClampNeg (c % wW s.1) (c / wW s.1) cc && (if wB s.1 then covg s.1 (s.2.1.1 j) cc else tp s.1 s.2.1.1 s.2.1.2.1 cc == some j)) 32) s.2.1.2.1 := rfl
        have hle := ct_le (fun j => ex (fun cc => cov s.1 b.toNatClampNeg (c % wW s.1) (c / wW s.1) cc && (if wB s.1 then covg s.1 (s.2.1.1 j) cc else tp s.1 s.2.1.1 s.2.1.2.1 cc == some j)) 32) s.2.1.2.1
        have efd : fd = lies s.1 s.2.1.1 s.2.1.2.1 b.toNatClampNeg (c % wW s.1) (c / wW s.1) (wB s.1) := by rw [hl]; omega
        simp only [tl_some, e111_0, e111_1, e111_2, e111_5, e111_8, e111_9, e111_10, e111_13, e111_14, e111_15, e111_18, e111_21, e111_22, e111_23, e111_24, e111_27, e111_29, e111_31, e111_34, e111_35, e111_36, e111_39, e111_40, e111_41, e111_42, e111_45, e111_46, e111_49, e111_52, e111_53, e111_55, e111_58, e111_59, e111_62, e111_65, e111_68, e111_70, e111_73, e111_76]
        refine ⟨by simp, c_answer hS ?_⟩
        simp only [tl_some, e111_0, e111_1, e111_2, e111_5, e111_8, e111_9, e111_10, e111_13, e111_14, e111_15, e111_18, e111_21, e111_22, e111_23, e111_24, e111_27, e111_29, e111_31, e111_34, e111_35, e111_36, e111_39, e111_40, e111_41, e111_42, e111_45, e111_46, e111_49, e111_52, e111_53, e111_55, e111_58, e111_59, e111_62, e111_65, e111_68, e111_70, e111_73, e111_76]
        exact ansQ' hS hI hQ (by unfold sp_on; rw [if_pos hb, hc, p1, p2, p3, efd])
  · simp only [tl_some, e111_0, e111_1, e111_2, e111_5, e111_8, e111_9, e111_10, e111_13, e111_14, e111_15, e111_18, e111_21, e111_22, e111_23, e111_24, e111_27, e111_29, e111_31, e111_34, e111_35, e111_36, e111_39, e111_40, e111_41, e111_42, e111_45, e111_46, e111_49, e111_52, e111_53, e111_55, e111_58, e111_59, e111_62, e111_65, e111_68, e111_70, e111_73, e111_76]
    exact refQ hS hI hQ (k := 1) (by decide) (by unfold sp_on; rw [if_neg (by simpa using z)])
theorem c_may (hV : InvC x P (n, K, FI, FL, FR, AI, AL, AR)) {b u v : Int32} (hQ : ∀ μ', InvC x (rs P (sp_may P b u v)) μ' → FrC x (n, K, FI, FL, FR, AI, AL, AR) μ' → Q (some (.int (rv (sp_may P b u v)))) μ') : EV sa (d + 5) 112 [.ref x, .int b, .int u, .int v] (n, K, FI, FL, FR, AI, AL, AR) Q := by
  obtain ⟨o, h, hS, hI⟩ := hV
  replace hS : CSt K FR AR x o h := hS
  replace hI : CInv x o P K FR AR FI AI AL := hI
  obtain ⟨k0, -, f450, -, -, -, -, -, -, ⟨hH, hT, ht⟩, -⟩ := id hS
  obtain ⟨-, -, -, -, -, -, -, h8, h4⟩ := hI.told
  refine n112 k0 ?_
  simp only [e112_0, e112_1, e112_2, e112_5, e112_8, e112_9, e112_10, e112_13, e112_14, e112_15, e112_18, e112_21, e112_22, e112_23, e112_24, e112_27, e112_29, e112_31, e112_34, e112_35, e112_36, e112_39, e112_40, e112_41, e112_42, e112_45, e112_46, e112_48, e112_51, e112_54, e112_55, e112_58, e112_59, e112_62]
  refine ⟨by simp, c_isBill hS hI ?_⟩
  simp only [tl_some, e112_0, e112_1, e112_2, e112_5, e112_8, e112_9, e112_10, e112_13, e112_14, e112_15, e112_18, e112_21, e112_22, e112_23, e112_24, e112_27, e112_29, e112_31, e112_34, e112_35, e112_36, e112_39, e112_40, e112_41, e112_42, e112_45, e112_46, e112_48, e112_51, e112_54, e112_55, e112_58, e112_59, e112_62, k0, f450, hH.1, ht, rf_some, true_and, bI_eq0]
  refine ⟨fun z => ⟨by simp, ?_⟩, fun z => ⟨by simp, c_refuse hS ?_⟩⟩
  · have hb := ts_nf z
    obtain ⟨s, es, eb, hb4, p1, p2, p3⟩ := isB_wall hI hb
    have hC := (hI.hc es).1
    refine c_cornerAtP hS hI hb ?_
    simp only [tl_some, e112_0, e112_1, e112_2, e112_5, e112_8, e112_9, e112_10, e112_13, e112_14, e112_15, e112_18, e112_21, e112_22, e112_23, e112_24, e112_27, e112_29, e112_31, e112_34, e112_35, e112_36, e112_39, e112_40, e112_41, e112_42, e112_45, e112_46, e112_48, e112_51, e112_54, e112_55, e112_58, e112_59, e112_62, k0, f450, rf_some, true_and, mj_kl]
    cases hc : sCor P b u v with
    | none =>
      simp only [oI]
      refine ⟨fun y => absurd y (by decide), fun _ => ⟨by simp, c_refuse hS ?_⟩⟩
      simp only [tl_some, e112_0, e112_1, e112_2, e112_5, e112_8, e112_9, e112_10, e112_13, e112_14, e112_15, e112_18, e112_21, e112_22, e112_23, e112_24, e112_27, e112_29, e112_31, e112_34, e112_35, e112_36, e112_39, e112_40, e112_41, e112_42, e112_45, e112_46, e112_48, e112_51, e112_54, e112_55, e112_58, e112_59, e112_62]
      exact refQ hS hI hQ (k := 2) (by decide) (by unfold sp_may; rw [if_pos hb, hc])
    | some c =>
      have c32 := (sCell_lt h8 h4 (sCor_some hc).1).2
      simp only [oI]
      refine ⟨fun _ => ⟨by simp, ?_⟩, fun y => absurd (nI_pos' (by omega)) y⟩
      have mg := c_mayGo (sa := sa) (d := d) (n := n) (FL := FL) (AR := AR) (Q := fun v' μ => WP sa (EV sa (d + 4)) 112 Q 0 0 51 [.ref x, .int b, .int u, .int v, .int (nI c)] (v'.toList ++ [.ref x]) μ) hC hb4 c32 fun F' L' a1 a2 => by
        simp only [tl_some, e112_0, e112_1, e112_2, e112_5, e112_8, e112_9, e112_10, e112_13, e112_14, e112_15, e112_18, e112_21, e112_22, e112_23, e112_24, e112_27, e112_29, e112_31, e112_34, e112_35, e112_36, e112_39, e112_40, e112_41, e112_42, e112_45, e112_46, e112_48, e112_51, e112_54, e112_55, e112_58, e112_59, e112_62, bI_eq0]
        refine ⟨fun y => ⟨by simp, c_answer hS ?_⟩, fun y => ⟨by simp, c_answer hS ?_⟩⟩
        · simp only [tl_some, e112_0, e112_1, e112_2, e112_5, e112_8, e112_9, e112_10, e112_13, e112_14, e112_15, e112_18, e112_21, e112_22, e112_23, e112_24, e112_27, e112_29, e112_31, e112_34, e112_35, e112_36, e112_39, e112_40, e112_41, e112_42, e112_45, e112_46, e112_48, e112_51, e112_54, e112_55, e112_58, e112_59, e112_62]
          exact ansL hS hI es a1 a2 hQ (by unfold sp_may; rw [if_pos hb, hc, p1, p2, p3]; simp only []; rw [y]; rfl)
        · simp only [tl_some, e112_0, e112_1, e112_2, e112_5, e112_8, e112_9, e112_10, e112_13, e112_14, e112_15, e112_18, e112_21, e112_22, e112_23, e112_24, e112_27, e112_29, e112_31, e112_34, e112_35, e112_36, e112_39, e112_40, e112_41, e112_42, e112_45, e112_46, e112_48, e112_51, e112_54, e112_55, e112_58, e112_59, e112_62]
          exact ansL hS hI es a1 a2 hQ (by unfold sp_may; rw [if_pos hb, hc, p1, p2, p3]; simp only []; rw [ts_nf y]; rfl)
      rw [← eb] at mg
      exact mg
  · simp only [tl_some, e112_0, e112_1, e112_2, e112_5, e112_8, e112_9, e112_10, e112_13, e112_14, e112_15, e112_18, e112_21, e112_22, e112_23, e112_24, e112_27, e112_29, e112_31, e112_34, e112_35, e112_36, e112_39, e112_40, e112_41, e112_42, e112_45, e112_46, e112_48, e112_51, e112_54, e112_55, e112_58, e112_59, e112_62]
    exact refQ hS hI hQ (k := 1) (by decide) (by unfold sp_may; rw [if_neg (by simpa using z)])
theorem c_full (hV : InvC x P (n, K, FI, FL, FR, AI, AL, AR)) (hQ : ∀ μ', InvC x (rs P (sp_full P)) μ' → FrC x (n, K, FI, FL, FR, AI, AL, AR) μ' → Q (some (.int (rv (sp_full P)))) μ') : EV sa (d + 6) 115 [.ref x] (n, K, FI, FL, FR, AI, AL, AR) Q := by
  obtain ⟨o, h, hS, hI⟩ := hV
  replace hS : CSt K FR AR x o h := hS
  replace hI : CInv x o P K FR AR FI AI AL := hI
  obtain ⟨k0, -, f450, -, -, -, -, -, -, ⟨hH, hT, ht⟩, -⟩ := id hS
  refine n115 k0 ?_
  simp only [e115_0, e115_1, e115_4, e115_7, e115_8, e115_9, e115_12, e115_15, e115_18, e115_19, e115_22, e115_23, e115_26, e115_29, e115_30, e115_31, e115_34]
  refine ⟨by simp, c_hasWall hS hI ?_⟩
  simp only [tl_some, e115_0, e115_1, e115_4, e115_7, e115_8, e115_9, e115_12, e115_15, e115_18, e115_19, e115_22, e115_23, e115_26, e115_29, e115_30, e115_31, e115_34, k0, f450, rf_some, true_and, bI_eq0]
  refine ⟨fun z => ⟨by simp, c_refuse hS ?_⟩, fun z => ⟨by simp, ?_⟩⟩
  · simp only [tl_some, e115_0, e115_1, e115_4, e115_7, e115_8, e115_9, e115_12, e115_15, e115_18, e115_19, e115_22, e115_23, e115_26, e115_29, e115_30, e115_31, e115_34]
    exact refQ hS hI hQ (k := 1) (by decide) (by unfold sp_full; rw [if_neg (by simp [z])])
  · obtain ⟨s, es⟩ := Option.isSome_iff_exists.mp (ts_nf z)
    have hC := (hI.hc es).1
    obtain ⟨p1, p2⟩ := pW_some es
    refine c_isFull hC fun F' L' a1 a2 => ?_
    simp only [tl_some, e115_0, e115_1, e115_4, e115_7, e115_8, e115_9, e115_12, e115_15, e115_18, e115_19, e115_22, e115_23, e115_26, e115_29, e115_30, e115_31, e115_34, bI_eq0]
    refine ⟨fun y => ⟨by simp, c_answer hS ?_⟩, fun y => ⟨by simp, c_answer hS ?_⟩⟩
    · simp only [tl_some, e115_0, e115_1, e115_4, e115_7, e115_8, e115_9, e115_12, e115_15, e115_18, e115_19, e115_22, e115_23, e115_26, e115_29, e115_30, e115_31, e115_34]
      exact ansL hS hI es a1 a2 hQ (by unfold sp_full pHs pM; rw [if_pos (ts_nf z), p1, p2]; rw [y]; rfl)
    · simp only [tl_some, e115_0, e115_1, e115_4, e115_7, e115_8, e115_9, e115_12, e115_15, e115_18, e115_19, e115_22, e115_23, e115_26, e115_29, e115_30, e115_31, e115_34]
      exact ansL hS hI es a1 a2 hQ (by unfold sp_full pHs pM; rw [if_pos (ts_nf z), p1, p2]; rw [ts_nf y]; rfl)
theorem c_makes (hV : InvC x P (n, K, FI, FL, FR, AI, AL, AR)) {b : Int32} (hQ : ∀ μ', InvC x (rs P (sp_makes P b)) μ' → FrC x (n, K, FI, FL, FR, AI, AL, AR) μ' → Q (some (.int (rv (sp_makes P b)))) μ') : EV sa (d + 6) 127 [.ref x, .int b] (n, K, FI, FL, FR, AI, AL, AR) Q := by
  obtain ⟨o, h, hS, hI⟩ := hV
  replace hS : CSt K FR AR x o h := hS
  replace hI : CInv x o P K FR AR FI AI AL := hI
  obtain ⟨k0, -, f450, -, -, -, -, -, -, ⟨hH, hT, ht⟩, -⟩ := id hS
  refine n127 k0 ?_
  simp only [e127_0, e127_1, e127_2, e127_5, e127_8, e127_9, e127_10, e127_13, e127_14, e127_17, e127_20, e127_23, e127_24, e127_25, e127_28]
  refine ⟨by simp, c_isBill hS hI ?_⟩
  simp only [tl_some, e127_0, e127_1, e127_2, e127_5, e127_8, e127_9, e127_10, e127_13, e127_14, e127_17, e127_20, e127_23, e127_24, e127_25, e127_28, k0, f450, rf_some, true_and, bI_eq0]
  refine ⟨fun z => ⟨by simp, c_refuse hS ?_⟩, fun z => ⟨by simp, ?_⟩⟩
  · simp only [tl_some, e127_0, e127_1, e127_2, e127_5, e127_8, e127_9, e127_10, e127_13, e127_14, e127_17, e127_20, e127_23, e127_24, e127_25, e127_28]
    exact refQ hS hI hQ (k := 1) (by decide) (by unfold sp_makes; rw [if_neg (by simp [z])])
  · have hb := ts_nf z
    obtain ⟨s, es, eb, hb4, p1, p2, p3⟩ := isB_wall hI hb
    have hC := (hI.hc es).1
    have mg := c_countMaking (sa := sa) (d := d) (n := n) (FL := FL) (AR := AR) (Q := fun v' μ => WP sa (EV sa (d + 5)) 127 Q 0 0 17 [.ref x, .int b] (v'.toList ++ [.ref x]) μ) hC hb4 fun F' L' a1 a2 => by
      simp only [tl_some, e127_0, e127_1, e127_2, e127_5, e127_8, e127_9, e127_10, e127_13, e127_14, e127_17, e127_20, e127_23, e127_24, e127_25, e127_28]
      refine ⟨by simp, c_answer hS ?_⟩
      simp only [tl_some, e127_0, e127_1, e127_2, e127_5, e127_8, e127_9, e127_10, e127_13, e127_14, e127_17, e127_20, e127_23, e127_24, e127_25, e127_28]
      exact ansL hS hI es a1 a2 hQ (by unfold sp_makes; rw [if_pos hb, p1, p2, p3])
    rw [← eb] at mg
    exact mg
theorem c_reads (hV : InvC x P (n, K, FI, FL, FR, AI, AL, AR)) {b : Int32} (hQ : ∀ μ', InvC x (rs P (sp_reads P b)) μ' → FrC x (n, K, FI, FL, FR, AI, AL, AR) μ' → Q (some (.int (rv (sp_reads P b)))) μ') : EV sa (d + 3) 124 [.ref x, .int b] (n, K, FI, FL, FR, AI, AL, AR) Q := by
  obtain ⟨o, h, hS, hI⟩ := hV
  replace hS : CSt K FR AR x o h := hS
  replace hI : CInv x o P K FR AR FI AI AL := hI
  obtain ⟨k0, -, f450, -, -, -, -, -, -, ⟨hH, hT, ht⟩, -⟩ := id hS
  refine n124 k0 ?_
  simp only [e124_0, e124_1, e124_2, e124_5, e124_8, e124_9, e124_10, e124_13, e124_14, e124_17, e124_20, e124_23, e124_24, e124_25, e124_28]
  refine ⟨by simp, c_isWord hS hI ?_⟩
  simp only [tl_some, e124_0, e124_1, e124_2, e124_5, e124_8, e124_9, e124_10, e124_13, e124_14, e124_17, e124_20, e124_23, e124_24, e124_25, e124_28, k0, f450, rf_some, true_and, bI_eq0]
  refine ⟨fun z => ⟨by simp, c_refuse hS ?_⟩, fun z => ⟨by simp, ?_⟩⟩
  · simp only [tl_some, e124_0, e124_1, e124_2, e124_5, e124_8, e124_9, e124_10, e124_13, e124_14, e124_17, e124_20, e124_23, e124_24, e124_25, e124_28]
    exact refQ hS hI hQ (k := 1) (by decide) (by unfold sp_reads; rw [if_neg (by simp [z])])
  · have hb := ts_nf z
    obtain ⟨s, es, eb, hb4, p1, p2, p3⟩ := isW_wall hI hb
    have hC := (hI.hc es).1
    have mg := c_timesRead (sa := sa) (d := d) (n := n) (FL := FL) (AR := AR) (Q := fun v' μ => WP sa (EV sa (d + 2)) 124 Q 0 0 17 [.ref x, .int b] (v'.toList ++ [.ref x]) μ) hC hb4 fun F' L' a1 a2 => by
      simp only [tl_some, e124_0, e124_1, e124_2, e124_5, e124_8, e124_9, e124_10, e124_13, e124_14, e124_17, e124_20, e124_23, e124_24, e124_25, e124_28]
      refine ⟨by simp, c_answer hS ?_⟩
      simp only [tl_some, e124_0, e124_1, e124_2, e124_5, e124_8, e124_9, e124_10, e124_13, e124_14, e124_17, e124_20, e124_23, e124_24, e124_25, e124_28]
      exact ansL hS hI es a1 a2 hQ (by unfold sp_reads; rw [if_pos hb, p1, p2, p3])
    rw [← eb] at mg
    exact mg
theorem c_readAt (hV : InvC x P (n, K, FI, FL, FR, AI, AL, AR)) {b : Int32} (hQ : ∀ μ', InvC x (rs P (sp_readAt P b)) μ' → FrC x (n, K, FI, FL, FR, AI, AL, AR) μ' → Q (some (.int (rv (sp_readAt P b)))) μ') : EV sa (d + 3) 125 [.ref x, .int b] (n, K, FI, FL, FR, AI, AL, AR) Q := by
  obtain ⟨o, h, hS, hI⟩ := hV
  replace hS : CSt K FR AR x o h := hS
  replace hI : CInv x o P K FR AR FI AI AL := hI
  obtain ⟨k0, -, f450, -, -, -, -, -, -, ⟨hH, hT, ht⟩, -⟩ := id hS
  refine n125 k0 ?_
  simp only [e125_0, e125_1, e125_2, e125_5, e125_8, e125_9, e125_10, e125_13, e125_14, e125_17, e125_20, e125_23, e125_24, e125_25, e125_28]
  refine ⟨by simp, c_isWord hS hI ?_⟩
  simp only [tl_some, e125_0, e125_1, e125_2, e125_5, e125_8, e125_9, e125_10, e125_13, e125_14, e125_17, e125_20, e125_23, e125_24, e125_25, e125_28, k0, f450, rf_some, true_and, bI_eq0]
  refine ⟨fun z => ⟨by simp, c_refuse hS ?_⟩, fun z => ⟨by simp, ?_⟩⟩
  · simp only [tl_some, e125_0, e125_1, e125_2, e125_5, e125_8, e125_9, e125_10, e125_13, e125_14, e125_17, e125_20, e125_23, e125_24, e125_25, e125_28]
    exact refQ hS hI hQ (k := 1) (by decide) (by unfold sp_readAt; rw [if_neg (by simp [z])])
  · have hb := ts_nf z
    obtain ⟨s, es, eb, hb4, p1, p2, p3⟩ := isW_wall hI hb
    have hC := (hI.hc es).1
    have mg := c_firstRead (sa := sa) (d := d) (n := n) (FL := FL) (AR := AR) (Q := fun v' μ => WP sa (EV sa (d + 2)) 125 Q 0 0 17 [.ref x, .int b] (v'.toList ++ [.ref x]) μ) hC hb4 fun F' L' a1 a2 => by
      simp only [tl_some, e125_0, e125_1, e125_2, e125_5, e125_8, e125_9, e125_10, e125_13, e125_14, e125_17, e125_20, e125_23, e125_24, e125_25, e125_28]
      refine ⟨by simp, c_answer hS ?_⟩
      simp only [tl_some, e125_0, e125_1, e125_2, e125_5, e125_8, e125_9, e125_10, e125_13, e125_14, e125_17, e125_20, e125_23, e125_24, e125_25, e125_28]
      exact ansL hS hI es a1 a2 hQ (by unfold sp_readAt rdAt; rw [if_pos hb, p1, p2, p3])
    rw [← eb] at mg
    exact mg
end
