/-! ## the law's case of led -/
section
variable {sa : Nat → Nat} {d n t h m : Nat} {Q : mj_Q} {K : Nat → Nat × Nat} {FI : Nat → Nat → Int32} {FL : Nat → Nat → Int64} {FR : Nat → Nat → Option Nat} {AI : Nat → Nat → Int32} {AL : Nat → Nat → Int64} {AR : Nat → Nat → Option Nat} {w : Wl} {hs : Nat → Hg}
variable {x o q a : Nat} {P : PG}
theorem CInv.al (hI : CInv x o P K FR AR FI AI AL) (hS : CSt K FR AR x o h) {v : Int64} (ha : x + 119 < a) : CInv x o P K FR AR FI AI (mj_u2 AL a 0 v) := by
  have ho : o = x + 2 ∨ o = x + 30 := by have := hS.2.2.2.2.2.2.2.2.1; omega
  refine hI.keep hS rfl hI.1 (fun c hc => ⟨fun _ => rfl, rfl, ?_, fun _ => rfl⟩)
  funext j
  exact mj_u2_1 (by omega)
theorem MInv.al (hI : MInv q P n K FR FI AI AL) {v : Int64} : MInv q P n K FR FI AI (mj_u2 AL (q + 13) 0 v) := by
  obtain ⟨h1, h2, h3, h4⟩ := hI
  refine ⟨h1, h2, h3, ?_⟩
  revert h4
  cases gW P with
  | none => exact fun h4 => h4
  | some s =>
    rintro ⟨b, ⟨⟨v1, v2, v3, v4, v5, v6, v7, v8⟩, o1, o2⟩, c1, c2⟩
    exact ⟨b, ⟨⟨v1, v2, v3, v4, v5, v6.fr rfl (by funext j; exact mj_u2_1 (by omega)), v7, v8⟩, o1, o2⟩, c1, c2⟩
theorem MInv.up (hI : MInv q P n K FR FI AI AL) {n' : Nat} (hn : n ≤ n') : MInv q P n' K FR FI AI AL := by
  obtain ⟨h1, h2, h3, h4⟩ := hI
  refine ⟨h1, h2, by omega, ?_⟩
  revert h4
  cases gW P with
  | none => exact fun h4 => h4
  | some s =>
    rintro ⟨b, o1, c1, c2, c3⟩
    exact ⟨b, o1, c1, by omega, c3⟩
/-- what findUnseen answers -/
theorem c_ledE (hV : InvC x P (n, K, FI, FL, FR, AI, AL, AR)) {i : Int32} : ∃ o, K x = (1, 7) ∧ FR 450 x = some o ∧ EV sa (d + 1) 12 [.ref o, .int i] (n, K, FI, FL, FR, AI, AL, AR) (fun v μ' => v = some (.int (oI (sp_led P i) (-1))) ∧ μ' = (n, K, FI, FL, FR, AI, AL, AR)) := by
  obtain ⟨o, h, hS, hI⟩ := hV
  replace hS : CSt K FR AR x o h := hS
  replace hI : CInv x o P K FR AR FI AI AL := hI
  obtain ⟨k0, -, f450, -, -, -, -, -, -, ⟨hH, hT, ht⟩, -⟩ := id hS
  refine ⟨o, k0, f450, ?_⟩
  cases es : gW P with
  | none =>
    have h2 := hI.2
    rw [es] at h2
    obtain ⟨-, z1, z2, z3, -⟩ := h2
    have hR : HungR FI AI o w_0 (fun _ => (0, 0, 0, 0)) 0 := ⟨z1, by omega, z2, by rw [z3]; rfl, fun k hk => absurd hk (by omega)⟩
    refine c_findUnseen hH hR ⟨?_, rfl⟩
    unfold sp_led
    rw [(pWn es).2]
    rfl
  | some s =>
    obtain ⟨p1, p2⟩ := pW_some es
    have em : pM P = s.2.1.2.1 := by unfold pM; rw [p2]
    have eh : pHs P = s.2.1.1 := by unfold pHs; rw [p2]
    have hC := (hI.hc es).1
    refine c_findUnseen hH hC.2.2.2.2.2.1 ⟨?_, rfl⟩
    unfold sp_led
    rw [p1, eh, em]
end
section LWL
variable {cx : LCx} {b N x i t k z : Nat} {P : PG} {v5 v6 : Value} {μ : mj_M} {n : Nat} {K : Nat → Nat × Nat} {FI : Nat → Nat → Int32} {FL : Nat → Nat → Int64} {FR : Nat → Nat → Option Nat} {AI : Nat → Nat → Int32} {AL : Nat → Nat → Int64} {AR : Nat → Nat → Option Nat}
theorem LV.al (h : LV b N x P t k z (n, K, FI, FL, FR, AI, AL, AR)) {v : Int64} : LV b N x P t k z (n, K, FI, FL, FR, AI, mj_u2 AL (x + 133) 0 v, AR) := by
  obtain ⟨⟨o, hh, hS, hI⟩, h2, h3⟩ := h
  replace hS : CSt K FR AR x o hh := hS
  replace hI : CInv x o P K FR AR FI AI AL := hI
  replace h2 : MInv (x + 120) P n K FR FI AI AL := h2
  exact ⟨⟨o, hh, hS, hI.al hS (by omega)⟩, h2.al, h3⟩
theorem LV.up (h : LV b N x P t k z (n, K, FI, FL, FR, AI, AL, AR)) {n' : Nat} (hn : n ≤ n') : LV b N x P t k z (n', K, FI, FL, FR, AI, AL, AR) := by
  obtain ⟨h1, h2, h3, h4, h5, h6, h7⟩ := h
  replace h2 : MInv (x + 120) P n K FR FI AI AL := h2
  exact ⟨h1, h2.up hn, h3, h4, h5, Nat.le_trans h6 hn, h7⟩
/-- from the model's led on -/
theorem lc_led2 {w5 : Int32} {k0 z0 : Nat} (hC : LC cx) (hH : LH b N x P P (μ.2.2.2.2.2.1 b) t k0 z0 μ) (hk9 : k ≤ 601024) (hz9 : z ≤ 7293034) (hi : i + 6 ≤ N) {u : Int32} (hu : μ.2.2.2.2.2.1 b (i + 1) = u) (hw : w5 = if (sp_led P u).isSome then 0 else 1) (ha : ∀ j, sp_led P u = some j → μ.2.2.2.2.2.2.1 (x + 133) 0 = (nI j).toInt64)
    (kk : ∀ (μ' : mj_M) (v5 v6 : Value), InvM (x + 120) P μ' → FrM (x + 120) μ μ' → LG cx k z 1570 [.ref b, .ref x, .ref (x + 120), .ref (x + 133), .int (nI i), v5, v6] [] μ') : LG cx k z 1489 [.ref b, .ref x, .ref (x + 120), .ref (x + 133), .int (nI i), .int w5, v6] [] μ := by
  obtain ⟨n, K, FI, FL, FR, AI, AL, AR⟩ := μ
  have hb : K b = (9, N) := hH.2.2.2.1.1
  have hN : N ≤ 3072 := hH.2.2.2.1.2.2
  replace hu : AI b (i + 1) = u := hu
  replace ha : ∀ j, sp_led P u = some j → AL (x + 133) 0 = (nI j).toInt64 := ha
  refine g_p hC dL_law_1489 rfl rfl ?_
  refine g_arg (j := 1) (v := u) hC dL_law_1490 dL_law_1491 dL_law_1493 dL_law_1494 dL_law_1495 rfl hb hN (by omega) hu ?_
  refine g_call0 (r := []) hC dL_law_1496 lp_193 (by decide) rfl (by simp) hk9 hz9 ?_
  refine c_m_led hH.2.1 (fun μ2 hM2 hF2 h640 => ?_)
  obtain ⟨n2, K2, FI2, FL2, FR2, AI2, AL2, AR2⟩ := μ2
  have kq : K2 (x + 120) = (1, 10) := hM2.1.1
  replace h640 : FI2 640 (x + 120) = if (sp_led P u).isSome then 0 else 1 := h640
  have ko : K2 (x + 133) = (4, 1) := by
    have := hF2.2.1 (x + 133) (by have := hH.2.2.2.2.2.1; omega)
    exact this.trans hH.2.2.2.2.1
  have ea : AL2 (x + 133) = AL (x + 133) := (hF2.2.2.2 (x + 133) (Or.inr (by omega))).2.2
  refine g_p hC dL_law_1499 rfl rfl ?_
  refine g_p hC dL_law_1501 rfl rfl ?_
  refine g_call0 (r := []) hC dL_law_1502 lp_194 (by decide) rfl (by simp) hk9 hz9 ?_
  refine c_thrown kq ?_
  refine g_p hC dL_law_1505 rfl rfl ?_
  rw [h640, ← hw]
  refine g_b (tgt := 1512) hC dL_law_1507 rfl rfl (fun _ => ?_) (fun h => absurd rfl h)
  refine g_p hC dL_law_1512 rfl rfl ?_
  refine g_b (tgt := 1529) hC dL_law_1514 rfl rfl (fun _ => ?_) (fun h => ?_)
  · refine g_go (tgt := 1570) hC dL_law_1529 rfl ?_
    exact kk _ _ _ hM2 hF2
  · have h0 : w5 = 0 := Classical.not_not.mp h
    cases e : sp_led P u with
    | none => rw [e] at hw; rw [hw] at h0; exact absurd h0 (by decide)
    | some j =>
      refine g_p hC dL_law_1517 rfl rfl ?_
      refine g_p hC dL_law_1518 rfl rfl ?_
      refine g_lal hC dL_law_1519 (by rw [ko]) (by rw [ko]; exact vp_in_nI (n := 0) (N := 1) (by decide) (by decide)) ?_
      rw [show (Int32.ofInt 0).toNatClampNeg = 0 by decide, ea, ha j e]
      refine g_p hC dL_law_1520 rfl rfl ?_
      refine g_p hC dL_law_1522 rfl rfl ?_
      refine g_p hC dL_law_1523 rfl rfl ?_
      refine g_b (tgt := 1529) hC dL_law_1524 rfl rfl (fun _ => ?_) (fun h => absurd ?_ h)
      · refine g_go (tgt := 1570) hC dL_law_1529 rfl ?_
        exact kk _ _ _ hM2 hF2
      · show lg_cmp (nI j).toInt64 (nI j).toInt64 = 0
        simp [lg_cmp]
theorem lc_led (hC : LC cx) (hV : LV b N x P t k z μ) (ht : t ≤ 511) (hi : i + 6 ≤ N) (kk : ∀ (P' : PG) (k' z' : Nat) (μ' : mj_M) (v5 v6 : Value), LV b N x P' (t + 1) k' z' μ' → LG cx k' z' 1570 [.ref b, .ref x, .ref (x + 120), .ref (x + 133), .int (nI i), v5, v6] [] μ') : LG cx k z 1476 [.ref b, .ref x, .ref (x + 120), .ref (x + 133), .int (nI i), v5, v6] [] μ := by
  have hrm := hV.room (by omega)
  obtain ⟨n, K, FI, FL, FR, AI, AL, AR⟩ := μ
  have hb : K b = (9, N) := hV.2.2.2.1.1
  have hN : N ≤ 3072 := hV.2.2.2.1.2.2
  have h30 : pM P ≤ 30 := by
    obtain ⟨o, hh, hS, hI⟩ := hV.1
    replace hI : CInv x o P K FR AR FI AI AL := hI
    exact hI.told.2.2.2.1
  obtain ⟨o, k0, f450, hE⟩ := c_ledE (sa := cS cx) (d := 999) hV.1 (i := AI b (i + 1))
  refine g_p hC dL_law_1476 rfl rfl ?_
  refine g_arg (j := 1) (v := AI b (i + 1)) hC dL_law_1477 dL_law_1478 dL_law_1480 dL_law_1481 dL_law_1482 rfl hb hN (by omega) rfl ?_
  refine g_p hC dL_law_1483 rfl rfl ?_
  refine g_led (r := []) (x := x) (o := x + 133) (h := o) (Tp := sp_led P (AI b (i + 1)) = none) (Rp := fun r => ∃ j, sp_led P (AI b (i + 1)) = some j ∧ r = nI j) hC dL_law_1484 (by simp) ⟨by omega, by omega⟩ k0 f450 hV.2.2.2.2.1 (EV_mono (cS cx) 1000 _ _ _ _ _ (fun v μ' q => ?_) hE) (fun v hv => ?_) (fun hn n' hnn => ?_)
  · refine ⟨_, q.1, q.2, fun h => ?_, fun h => ?_⟩
    · cases e : sp_led P (AI b (i + 1)) with
      | none => rfl
      | some j =>
        rw [e] at h
        have hlt := fnd_lt e
        exact absurd (nI_pos' (by omega)) h
    · cases e : sp_led P (AI b (i + 1)) with
      | none => rw [e] at h; exact absurd h (by decide)
      | some j => exact ⟨j, rfl, rfl⟩
  · obtain ⟨j, e, rfl⟩ := hv
    refine g_p hC dL_law_1487 rfl rfl ?_
    have hH := (hV.al (v := (nI j).toInt64)).c0
    refine lc_led2 hC hH (by omega) (by omega) hi rfl (by rw [e]; rfl) (fun j' e' => by rw [e] at e'; cases e'; exact mj_u2_s) (fun μ' v5 v6 hM hF => kk P _ _ μ' v5 v6 (hH.mw hM hF hV.2.2.1 (by omega) (by omega)))
  · refine g_p hC dL_law_1487 rfl rfl ?_
    have hH := (hV.up hnn).c0
    refine lc_led2 hC hH (by omega) (by omega) hi rfl (by rw [hn]; rfl) (fun j' e' => by rw [hn] at e'; cases e') (fun μ' v5 v6 hM hF => kk P _ _ μ' v5 v6 (hH.mw hM hF hV.2.2.1 (by omega) (by omega)))
end LWL
