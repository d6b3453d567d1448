/-! ## what each call answers, purely -/
def mkI (p : Nat → Bool) : Nat → Int32
  | 0 => 0
  | n + 1 => if p n then mkI p n ||| ((1 : Int32) <<< (nI n &&& 31)) else mkI p n
theorem mkI_bt {p : Nat → Bool} : ∀ {n : Nat}, n ≤ 32 → ∀ c, c < 32 → bt (mkI p n) c = (decide (c < n) && p c)
  | 0, _, c, hc => by simp [mkI, b_0]
  | n + 1, hn, c, hc => by
    simp only [mkI]
    split
    · next h =>
      rw [b_or, mkI_bt (by omega) c hc, Mk_one (show n < 32 by omega) c hc]
      by_cases q : c = n
      · subst q; simp [h]
      · have : (c < n + 1) ↔ c < n := by omega
        simp [q, this]
    · next h =>
      rw [mkI_bt (by omega) c hc]
      by_cases q : c = n
      · subst q; simp [show p c = false by simpa using h]
      · have : (c < n + 1) ↔ c < n := by omega
        simp [this]
theorem mkI_Mk (p : Nat → Bool) : Mk (mkI p 32) p := fun c hc => by rw [mkI_bt (Nat.le_refl _) c hc]; simp [hc]
def sp_hanging (P : PG) : Nat ⊕ Int32 := if (gW P).isSome then .inr (nI (pM P)) else .inl 1
def sp_shows (P : PG) (u v : Int32) : Nat ⊕ Int32 := match sCell P u v with
  | none => .inl 1
  | some c => .inr (oI (tp (pW P) (pHs P) (pM P) c) (-2))
def sp_letter (P : PG) (u v : Int32) : Nat ⊕ Int32 := match sCell P u v with
  | none => .inl 1
  | some c => .inr (oI (letr (pW P) (pHs P) (pM P) c) (-2))
def sp_under (P : PG) (i : Int32) : Nat ⊕ Int32 := if isHg P i then .inr (mkI (fun k => decide (k < i.toNatClampNeg) && tch (pW P) (pHs P) k i.toNatClampNeg) 32) else .inl 1
def sp_over (P : PG) (i : Int32) : Nat ⊕ Int32 := if isHg P i then .inr (mkI (fun k => decide (i.toNatClampNeg < k ∧ k < pM P) && tch (pW P) (pHs P) k i.toNatClampNeg) 32) else .inl 1
def bnd (P : PG) (c : Nat) (i : Int32) : Option Nat := fndD (fun k => covg (pW P) (pHs P k) c && decide (i = nI (ct (fun k => covg (pW P) (pHs P k) c) (pM P) - ct (fun k => covg (pW P) (pHs P k) c) (k + 1)))) (pM P)
def sp_beneath (P : PG) (u v i : Int32) : Nat ⊕ Int32 := match sCell P u v with
  | none => .inl 1
  | some c => match bnd P c i with
    | none => .inl 6
    | some k => .inr (nI k)
theorem pW_some {P : PG} {s : WS} (e : gW P = some s) : pW P = s.1 ∧ pE P = s.2.1 := by
  unfold pW pE
  rw [e]
  exact ⟨rfl, rfl⟩
theorem wall_of {P : PG} (h : 0 < wW (pW P) ∨ 0 < wNB (pW P) ∨ 0 < pM P ∨ 0 < wNW (pW P)) : ∃ s, gW P = some s := by
  cases e : gW P with
  | some s => exact ⟨s, rfl⟩
  | none =>
    unfold pM pW pE at h
    rw [e] at h
    rcases h with z | z | z | z <;> exact absurd z (by decide)
theorem sCell_wall {P : PG} {u v : Int32} {c : Nat} (h8 : wW (pW P) ≤ 8) (h : sCell P u v = some c) : ∃ s, gW P = some s := by
  unfold sCell at h
  split at h
  · next z =>
    obtain ⟨-, a1⟩ := rng_of (b := u) (N := wW (pW P)) (by omega) ⟨z.1, z.2.1⟩
    exact wall_of (Or.inl (by omega))
  · cases h
section
variable {sa : Nat → Nat} {d n t h m : Nat} {Q : mj_Q} {K : Nat → Nat × Nat} {FI : Nat → Nat → Int32} {FL : Nat → Nat → Int64} {FR : Nat → Nat → Option Nat} {AI : Nat → Nat → Int32} {AL : Nat → Nat → Int64} {AR : Nat → Nat → Option Nat} {w : Wl} {hs : Nat → Hg}
variable {x : Nat} {P : PG}
theorem c_hanging (hV : InvC x P (n, K, FI, FL, FR, AI, AL, AR)) (hQ : ∀ μ', InvC x (rs P (sp_hanging P)) μ' → FrC x (n, K, FI, FL, FR, AI, AL, AR) μ' → Q (some (.int (rv (sp_hanging P)))) μ') : EV sa (d + 2) 104 [.ref x] (n, K, FI, FL, FR, AI, AL, AR) Q := by
  obtain ⟨o, h, hS, hI⟩ := hV
  replace hS : CSt K FR AR x o h := hS
  replace hI : CInv x o P K FR AR FI AI AL := hI
  obtain ⟨k0, -, f450, -, -, -, -, -, -, ⟨hH, hT, ht⟩, -⟩ := id hS
  refine n104 k0 ?_
  simp only [e104_0, e104_1, e104_4, e104_7, e104_8, e104_9, e104_12, e104_15, e104_18, e104_21, e104_22, e104_23, e104_26]
  refine ⟨by simp, c_hasWall hS hI ?_⟩
  simp only [tl_some, e104_0, e104_1, e104_4, e104_7, e104_8, e104_9, e104_12, e104_15, e104_18, e104_21, e104_22, e104_23, e104_26, k0, f450, rf_some, hH.1, hI.told.2.1, true_and, bI_eq0]
  refine ⟨fun z => ⟨by simp, c_refuse hS ?_⟩, fun z => ⟨by simp, c_answer hS ?_⟩⟩
  · simp only [tl_some, e104_0, e104_1, e104_4, e104_7, e104_8, e104_9, e104_12, e104_15, e104_18, e104_21, e104_22, e104_23, e104_26]
    exact refQ hS hI hQ (k := 1) (by decide) (by unfold sp_hanging; rw [if_neg (by simp [z])])
  · simp only [tl_some, e104_0, e104_1, e104_4, e104_7, e104_8, e104_9, e104_12, e104_15, e104_18, e104_21, e104_22, e104_23, e104_26]
    exact ansQ' hS hI hQ (by unfold sp_hanging; rw [if_pos (ts_nf z)])
theorem c_shows (hV : InvC x P (n, K, FI, FL, FR, AI, AL, AR)) {u v : Int32} (hQ : ∀ μ', InvC x (rs P (sp_shows P u v)) μ' → FrC x (n, K, FI, FL, FR, AI, AL, AR) μ' → Q (some (.int (rv (sp_shows P u v)))) μ') : EV sa (d + 3) 106 [.ref x, .int u, .int v] (n, K, FI, FL, FR, AI, AL, AR) Q := by
  obtain ⟨o, h, hS, hI⟩ := hV
  replace hS : CSt K FR AR x o h := hS
  replace hI : CInv x o P K FR AR FI AI AL := hI
  obtain ⟨k0, -, f450, -, -, -, -, -, -, ⟨hH, hT, ht⟩, -⟩ := id hS
  obtain ⟨-, -, -, -, -, -, -, h8, h4⟩ := hI.told
  refine n106 k0 ?_
  simp only [e106_0, e106_1, e106_4, e106_7, e106_8, e106_9, e106_12, e106_13, e106_14, e106_17, e106_18, e106_19, e106_22, e106_25, e106_26, e106_27, e106_30, e106_31, e106_34, e106_37, k0, f450, rf_some, hH.1, ht, true_and]
  refine ⟨by simp, c_cellAtP hS hI ?_⟩
  simp only [tl_some, e106_0, e106_1, e106_4, e106_7, e106_8, e106_9, e106_12, e106_13, e106_14, e106_17, e106_18, e106_19, e106_22, e106_25, e106_26, e106_27, e106_30, e106_31, e106_34, e106_37, k0, f450, rf_some, true_and, mj_kl]
  cases hc : sCell P u v with
  | none =>
    simp only [oI]
    refine ⟨fun z => absurd z (by decide), fun _ => ⟨by simp, c_refuse hS ?_⟩⟩
    simp only [tl_some, e106_0, e106_1, e106_4, e106_7, e106_8, e106_9, e106_12, e106_13, e106_14, e106_17, e106_18, e106_19, e106_22, e106_25, e106_26, e106_27, e106_30, e106_31, e106_34, e106_37]
    exact refQ hS hI hQ (k := 1) (by decide) (by unfold sp_shows; rw [hc])
  | some c =>
    obtain ⟨s, es⟩ := sCell_wall h8 hc
    have hC := (hI.hc es).1
    obtain ⟨p1, p2⟩ := pW_some es
    have c2 := (sCell_lt h8 h4 hc).2
    simp only [oI]
    refine ⟨fun _ => ⟨by simp, c_latestAt hC.1 hC.2.2.2.2.2.1 c2 ?_⟩, fun z => absurd (nI_pos' (by omega)) z⟩
    simp only [tl_some, e106_0, e106_1, e106_4, e106_7, e106_8, e106_9, e106_12, e106_13, e106_14, e106_17, e106_18, e106_19, e106_22, e106_25, e106_26, e106_27, e106_30, e106_31, e106_34, e106_37]
    refine ⟨by simp, c_answer hS ?_⟩
    simp only [tl_some, e106_0, e106_1, e106_4, e106_7, e106_8, e106_9, e106_12, e106_13, e106_14, e106_17, e106_18, e106_19, e106_22, e106_25, e106_26, e106_27, e106_30, e106_31, e106_34, e106_37]
    exact ansQ' hS hI hQ (by unfold sp_shows pHs pM; rw [hc, p1, p2])
theorem c_letter (hV : InvC x P (n, K, FI, FL, FR, AI, AL, AR)) {u v : Int32} (hQ : ∀ μ', InvC x (rs P (sp_letter P u v)) μ' → FrC x (n, K, FI, FL, FR, AI, AL, AR) μ' → Q (some (.int (rv (sp_letter P u v)))) μ') : EV sa (d + 3) 107 [.ref x, .int u, .int v] (n, K, FI, FL, FR, AI, AL, AR) Q := by
  obtain ⟨o, h, hS, hI⟩ := hV
  replace hS : CSt K FR AR x o h := hS
  replace hI : CInv x o P K FR AR FI AI AL := hI
  obtain ⟨k0, -, f450, -, -, -, -, -, -, ⟨hH, hT, ht⟩, -⟩ := id hS
  obtain ⟨-, -, -, -, -, -, -, h8, h4⟩ := hI.told
  refine n107 k0 ?_
  simp only [e107_0, e107_1, e107_4, e107_7, e107_8, e107_9, e107_12, e107_13, e107_14, e107_17, e107_18, e107_19, e107_22, e107_23, e107_24, e107_27, e107_28, e107_31, e107_33, e107_34, e107_36, e107_39, e107_41, e107_44, e107_46, e107_47, e107_48, e107_51, k0, f450, rf_some, hH.1, ht, true_and]
  refine ⟨by simp, c_cellAtP hS hI ?_⟩
  simp only [tl_some, e107_0, e107_1, e107_4, e107_7, e107_8, e107_9, e107_12, e107_13, e107_14, e107_17, e107_18, e107_19, e107_22, e107_23, e107_24, e107_27, e107_28, e107_31, e107_33, e107_34, e107_36, e107_39, e107_41, e107_44, e107_46, e107_47, e107_48, e107_51, k0, f450, rf_some, true_and, mj_kl]
  cases hc : sCell P u v with
  | none =>
    simp only [oI]
    refine ⟨fun z => absurd z (by decide), fun _ => ⟨by simp, c_refuse hS ?_⟩⟩
    simp only [tl_some, e107_0, e107_1, e107_4, e107_7, e107_8, e107_9, e107_12, e107_13, e107_14, e107_17, e107_18, e107_19, e107_22, e107_23, e107_24, e107_27, e107_28, e107_31, e107_33, e107_34, e107_36, e107_39, e107_41, e107_44, e107_46, e107_47, e107_48, e107_51]
    exact refQ hS hI hQ (k := 1) (by decide) (by unfold sp_letter; rw [hc])
  | some c =>
    obtain ⟨s, es⟩ := sCell_wall h8 hc
    have hC := (hI.hc es).1
    obtain ⟨p1, p2⟩ := pW_some es
    obtain ⟨c1, c2⟩ := sCell_lt h8 h4 hc
    rw [p1] at c1
    simp only [oI]
    refine ⟨fun _ => ⟨by simp, c_codeAt hC c1 fun F' L' a1 a2 => ?_⟩, fun z => absurd (nI_pos' (by omega)) z⟩
    have hlt : ∀ l, letr s.1 s.2.1.1 s.2.1.2.1 c = some l → l < 26 := fun l hl => by
      unfold letr at hl
      cases e : tp s.1 s.2.1.1 s.2.1.2.1 c with
      | none => rw [e] at hl; cases hl
      | some k =>
        rw [e] at hl
        simp only [Option.map_some, Option.some.injEq] at hl
        have hk := (hC.2.2.2.2.2.1.2.2.2.2 k (tp_lt e).1).1.1
        obtain ⟨-, -, -, ⟨t1, -⟩, t3⟩ := hC.2.2.2.1.2.2.2.2.2.2.1 _ hk
        rw [← hl]
        exact t3 _ (Nat.mod_lt _ (by omega))
    simp only [tl_some, e107_0, e107_1, e107_4, e107_7, e107_8, e107_9, e107_12, e107_13, e107_14, e107_17, e107_18, e107_19, e107_22, e107_23, e107_24, e107_27, e107_28, e107_31, e107_33, e107_34, e107_36, e107_39, e107_41, e107_44, e107_46, e107_47, e107_48, e107_51, mj_kl]
    cases hl : letr s.1 s.2.1.1 s.2.1.2.1 c with
    | none =>
      simp only [lcd]
      refine ⟨fun z => absurd (show nI 0 = 0 from rfl) z, fun _ => ⟨by simp, c_answer hS ?_⟩⟩
      simp only [tl_some, e107_0, e107_1, e107_4, e107_7, e107_8, e107_9, e107_12, e107_13, e107_14, e107_17, e107_18, e107_19, e107_22, e107_23, e107_24, e107_27, e107_28, e107_31, e107_33, e107_34, e107_36, e107_39, e107_41, e107_44, e107_46, e107_47, e107_48, e107_51]
      exact ansL hS hI es a1 a2 hQ (by unfold sp_letter pHs pM; rw [hc, p1, p2]; simp only []; rw [hl]; rfl)
    | some l =>
      have hl26 := hlt l hl
      simp only [lcd, nI_pred]
      refine ⟨fun _ => ⟨by simp, c_answer hS ?_⟩, fun z => absurd (nI_ne0 (by omega) (by omega)) z⟩
      simp only [tl_some, e107_0, e107_1, e107_4, e107_7, e107_8, e107_9, e107_12, e107_13, e107_14, e107_17, e107_18, e107_19, e107_22, e107_23, e107_24, e107_27, e107_28, e107_31, e107_33, e107_34, e107_36, e107_39, e107_41, e107_44, e107_46, e107_47, e107_48, e107_51]
      exact ansL hS hI es a1 a2 hQ (by unfold sp_letter pHs pM; rw [hc, p1, p2]; simp only []; rw [hl]; rfl)
theorem c_beneath (hV : InvC x P (n, K, FI, FL, FR, AI, AL, AR)) {u v i : Int32} (hQ : ∀ μ', InvC x (rs P (sp_beneath P u v i)) μ' → FrC x (n, K, FI, FL, FR, AI, AL, AR) μ' → Q (some (.int (rv (sp_beneath P u v i)))) μ') : EV sa (d + 3) 110 [.ref x, .int u, .int v, .int i] (n, K, FI, FL, FR, AI, AL, AR) Q := by
  obtain ⟨o, h, hS, hI⟩ := hV
  replace hS : CSt K FR AR x o h := hS
  replace hI : CInv x o P K FR AR FI AI AL := hI
  obtain ⟨k0, -, f450, -, -, -, -, -, -, ⟨hH, hT, ht⟩, -⟩ := id hS
  obtain ⟨-, -, -, -, -, -, -, h8, h4⟩ := hI.told
  refine n110 k0 ?_
  simp only [e110_0, e110_1, e110_4, e110_7, e110_8, e110_9, e110_12, e110_14, e110_16, e110_19, e110_20, e110_21, e110_24, e110_25, e110_26, e110_29, e110_31, e110_32, e110_35, e110_37, e110_39, e110_42, e110_43, e110_45, e110_48, e110_51, e110_52, e110_54, e110_57, k0, f450, rf_some, hH.1, ht, true_and]
  refine ⟨by simp, c_cellAtP hS hI ?_⟩
  simp only [tl_some, e110_0, e110_1, e110_4, e110_7, e110_8, e110_9, e110_12, e110_14, e110_16, e110_19, e110_20, e110_21, e110_24, e110_25, e110_26, e110_29, e110_31, e110_32, e110_35, e110_37, e110_39, e110_42, e110_43, e110_45, e110_48, e110_51, e110_52, e110_54, e110_57, k0, f450, rf_some, true_and, mj_kl]
  cases hc : sCell P u v with
  | none =>
    simp only [oI]
    refine ⟨fun z => absurd z (by decide), fun _ => ⟨by simp, c_refuse hS ?_⟩⟩
    simp only [tl_some, e110_0, e110_1, e110_4, e110_7, e110_8, e110_9, e110_12, e110_14, e110_16, e110_19, e110_20, e110_21, e110_24, e110_25, e110_26, e110_29, e110_31, e110_32, e110_35, e110_37, e110_39, e110_42, e110_43, e110_45, e110_48, e110_51, e110_52, e110_54, e110_57]
    exact refQ hS hI hQ (k := 1) (by decide) (by unfold sp_beneath; rw [hc])
  | some c =>
    obtain ⟨s, es⟩ := sCell_wall h8 hc
    have hC := (hI.hc es).1
    obtain ⟨p1, p2⟩ := pW_some es
    have c2 := (sCell_lt h8 h4 hc).2
    simp only [oI]
    refine ⟨fun _ => ⟨by simp, c_latestAt2 hC.1 hC.2.2.2.2.2.1 c2 ?_⟩, fun z => absurd (nI_pos' (by omega)) z⟩
    have eb : fndD (fun k => covg s.1 (s.2.1.1 k) c && decide (i = nI (ct (fun k => covg s.1 (s.2.1.1 k) c) s.2.1.2.1 - ct (fun k => covg s.1 (s.2.1.1 k) c) (k + 1)))) s.2.1.2.1 = bnd P c i := by
      unfold bnd pHs pM
      rw [p1, p2]
    rw [eb]
    simp only [tl_some, e110_0, e110_1, e110_4, e110_7, e110_8, e110_9, e110_12, e110_14, e110_16, e110_19, e110_20, e110_21, e110_24, e110_25, e110_26, e110_29, e110_31, e110_32, e110_35, e110_37, e110_39, e110_42, e110_43, e110_45, e110_48, e110_51, e110_52, e110_54, e110_57, mj_kl]
    have h30 := hC.2.2.2.2.2.1.2.1
    cases hb : bnd P c i with
    | none =>
      simp only [oI]
      refine ⟨fun z => absurd z (by decide), fun _ => ⟨by simp, c_refuse hS ?_⟩⟩
      simp only [tl_some, e110_0, e110_1, e110_4, e110_7, e110_8, e110_9, e110_12, e110_14, e110_16, e110_19, e110_20, e110_21, e110_24, e110_25, e110_26, e110_29, e110_31, e110_32, e110_35, e110_37, e110_39, e110_42, e110_43, e110_45, e110_48, e110_51, e110_52, e110_54, e110_57]
      exact refQ hS hI hQ (k := 6) (by decide) (by unfold sp_beneath; rw [hc]; simp only []; rw [hb])
    | some k =>
      have hk : k < 30 := by
        have := (fndD_lt hb).1
        unfold pM at this
        rw [p2] at this
        omega
      simp only [oI]
      refine ⟨fun _ => ⟨by simp, c_answer hS ?_⟩, fun z => absurd (nI_pos' (by omega)) z⟩
      simp only [tl_some, e110_0, e110_1, e110_4, e110_7, e110_8, e110_9, e110_12, e110_14, e110_16, e110_19, e110_20, e110_21, e110_24, e110_25, e110_26, e110_29, e110_31, e110_32, e110_35, e110_37, e110_39, e110_42, e110_43, e110_45, e110_48, e110_51, e110_52, e110_54, e110_57]
      exact ansQ' hS hI hQ (by unfold sp_beneath; rw [hc]; simp only []; rw [hb])
theorem c_under (hV : InvC x P (n, K, FI, FL, FR, AI, AL, AR)) {i : Int32} (hQ : ∀ μ', InvC x (rs P (sp_under P i)) μ' → FrC x (n, K, FI, FL, FR, AI, AL, AR) μ' → Q (some (.int (rv (sp_under P i)))) μ') : EV sa (d + 2) 108 [.ref x, .int i] (n, K, FI, FL, FR, AI, AL, AR) Q := by
  obtain ⟨o, h, hS, hI⟩ := hV
  replace hS : CSt K FR AR x o h := hS
  replace hI : CInv x o P K FR AR FI AI AL := hI
  obtain ⟨k0, -, f450, -, -, -, -, -, -, ⟨hH, hT, ht⟩, -⟩ := id hS
  have h30 := hI.told.2.2.2.1
  refine n108 k0 ?_
  simp only [e108_0, e108_1, e108_2, e108_5, e108_8, e108_9, e108_10, e108_13, e108_14, e108_15, e108_16, e108_19, e108_22, e108_25, e108_26, e108_27, e108_30]
  refine ⟨by simp, c_hangs hS hI ?_⟩
  simp only [tl_some, e108_0, e108_1, e108_2, e108_5, e108_8, e108_9, e108_10, e108_13, e108_14, e108_15, e108_16, e108_19, e108_22, e108_25, e108_26, e108_27, e108_30, k0, f450, rf_some, true_and, bI_eq0]
  refine ⟨fun z => ⟨by simp, c_refuse hS ?_⟩, fun z => ⟨by simp, ?_⟩⟩
  · simp only [tl_some, e108_0, e108_1, e108_2, e108_5, e108_8, e108_9, e108_10, e108_13, e108_14, e108_15, e108_16, e108_19, e108_22, e108_25, e108_26, e108_27, e108_30]
    exact refQ hS hI hQ (k := 1) (by decide) (by unfold sp_under; rw [if_neg (by simp [z])])
  · have z' : isHg P i = true := by simpa using z
    obtain ⟨e1, e2⟩ := rng_of (N := pM P) (by omega) (by simpa [isHg] using z')
    obtain ⟨s, es⟩ := wall_of (P := P) (Or.inr (Or.inr (Or.inl (by omega))))
    have hC := (hI.hc es).1
    obtain ⟨p1, p2⟩ := pW_some es
    have em : pM P = s.2.1.2.1 := by unfold pM; rw [p2]
    generalize hk : i.toNatClampNeg = k at *
    rw [e1]
    refine c_touching (a := 0) (b := k) hC.1 hC.2.2.2.2.2.1 (by omega) (by omega) (by omega) fun w hw => ?_
    have ew : w = mkI (fun j => decide (j < k) && tch (pW P) (pHs P) j k) 32 := Mk.inj (hw.congr fun c hc => by
      unfold pHs
      rw [p1, p2]
      congr 1
      rw [decide_eq_decide]
      omega) (mkI_Mk _)
    simp only [tl_some, e108_0, e108_1, e108_2, e108_5, e108_8, e108_9, e108_10, e108_13, e108_14, e108_15, e108_16, e108_19, e108_22, e108_25, e108_26, e108_27, e108_30]
    refine ⟨by simp, c_answer hS ?_⟩
    simp only [tl_some, e108_0, e108_1, e108_2, e108_5, e108_8, e108_9, e108_10, e108_13, e108_14, e108_15, e108_16, e108_19, e108_22, e108_25, e108_26, e108_27, e108_30]
    exact ansQ' hS hI hQ (by unfold sp_under; rw [if_pos z', hk, ew])
theorem c_over (hV : InvC x P (n, K, FI, FL, FR, AI, AL, AR)) {i : Int32} (hQ : ∀ μ', InvC x (rs P (sp_over P i)) μ' → FrC x (n, K, FI, FL, FR, AI, AL, AR) μ' → Q (some (.int (rv (sp_over P i)))) μ') : EV sa (d + 2) 109 [.ref x, .int i] (n, K, FI, FL, FR, AI, AL, AR) Q := by
  obtain ⟨o, h, hS, hI⟩ := hV
  replace hS : CSt K FR AR x o h := hS
  replace hI : CInv x o P K FR AR FI AI AL := hI
  obtain ⟨k0, -, f450, -, -, -, -, -, -, ⟨hH, hT, ht⟩, -⟩ := id hS
  have h30 := hI.told.2.2.2.1
  refine n109 k0 ?_
  simp only [e109_0, e109_1, e109_2, e109_5, e109_8, e109_9, e109_10, e109_13, e109_14, e109_15, e109_16, e109_17, e109_18, e109_21, e109_24, e109_27, e109_30, e109_33, e109_34, e109_35, e109_38]
  refine ⟨by simp, c_hangs hS hI ?_⟩
  simp only [tl_some, e109_0, e109_1, e109_2, e109_5, e109_8, e109_9, e109_10, e109_13, e109_14, e109_15, e109_16, e109_17, e109_18, e109_21, e109_24, e109_27, e109_30, e109_33, e109_34, e109_35, e109_38, k0, f450, rf_some, hH.1, hI.told.2.1, true_and, bI_eq0]
  refine ⟨fun z => ⟨by simp, c_refuse hS ?_⟩, fun z => ⟨by simp, ?_⟩⟩
  · simp only [tl_some, e109_0, e109_1, e109_2, e109_5, e109_8, e109_9, e109_10, e109_13, e109_14, e109_15, e109_16, e109_17, e109_18, e109_21, e109_24, e109_27, e109_30, e109_33, e109_34, e109_35, e109_38]
    exact refQ hS hI hQ (k := 1) (by decide) (by unfold sp_over; rw [if_neg (by simp [z])])
  · have z' : isHg P i = true := by simpa using z
    obtain ⟨e1, e2⟩ := rng_of (N := pM P) (by omega) (by simpa [isHg] using z')
    obtain ⟨s, es⟩ := wall_of (P := P) (Or.inr (Or.inr (Or.inl (by omega))))
    have hC := (hI.hc es).1
    obtain ⟨p1, p2⟩ := pW_some es
    have em : pM P = s.2.1.2.1 := by unfold pM; rw [p2]
    generalize hk : i.toNatClampNeg = k at *
    rw [e1, nI_1]
    refine c_touching (a := k + 1) (b := pM P) hC.1 hC.2.2.2.2.2.1 (by omega) (by omega) (by omega) fun w hw => ?_
    have ew : w = mkI (fun j => decide (k < j ∧ j < pM P) && tch (pW P) (pHs P) j k) 32 := Mk.inj (hw.congr fun c hc => by
      unfold pHs
      rw [p1, p2]
      congr 1
      rw [decide_eq_decide]
      omega) (mkI_Mk _)
    simp only [tl_some, e109_0, e109_1, e109_2, e109_5, e109_8, e109_9, e109_10, e109_13, e109_14, e109_15, e109_16, e109_17, e109_18, e109_21, e109_24, e109_27, e109_30, e109_33, e109_34, e109_35, e109_38]
    refine ⟨by simp, c_answer hS ?_⟩
    simp only [tl_some, e109_0, e109_1, e109_2, e109_5, e109_8, e109_9, e109_10, e109_13, e109_14, e109_15, e109_16, e109_17, e109_18, e109_21, e109_24, e109_27, e109_30, e109_33, e109_34, e109_35, e109_38]
    exact ansQ' hS hI hQ (by unfold sp_over; rw [if_pos z', hk, ew])
end
