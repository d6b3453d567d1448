/-! ## the model reads lines -/
def rFs : List Nat := [652, 653, 654, 655, 656, 657, 658, 659, 662, 663]
/-- what reading a line changes -/
def RZ (q a : Nat) (FI FI' AI AI' : Nat → Nat → Int32) (FL FL' AL AL' : Nat → Nat → Int64) : Prop := (∀ f c, c < a → (c ≠ q ∨ f ∉ rFs) → FI' f c = FI f c) ∧ FLx FL FL' q [661] ∧ (∀ c, c < a → c ≠ q + 1 → c ≠ q + 2 → c ≠ q + 4 → AI' c = AI c) ∧ (∀ c, c < a → AL' c = AL c) ∧ ∀ j, 121 ≤ j → AI' (a + 14) j = AI (a + 14) j
theorem RZ.rfl' {q a : Nat} {FI AI : Nat → Nat → Int32} {FL AL : Nat → Nat → Int64} : RZ q a FI FI AI AI FL FL AL AL := ⟨fun _ _ _ _ => rfl, FLx.rfl', fun _ _ _ _ _ => rfl, fun _ _ => rfl, fun _ _ => rfl⟩
theorem RZ.trans {q a : Nat} {FI F1 F2 AI A1 A2 : Nat → Nat → Int32} {FL L1 L2 AL M1 M2 : Nat → Nat → Int64} (x : RZ q a FI F1 AI A1 FL L1 AL M1) (y : RZ q a F1 F2 A1 A2 L1 L2 M1 M2) : RZ q a FI F2 AI A2 FL L2 AL M2 := ⟨fun f c h1 h2 => by rw [y.1 f c h1 h2, x.1 f c h1 h2], x.2.1.trans y.2.1, fun c h1 h2 h3 h4 => by rw [y.2.2.1 c h1 h2 h3 h4, x.2.2.1 c h1 h2 h3 h4], fun c h1 => by rw [y.2.2.2.1 c h1, x.2.2.2.1 c h1], fun j hj => by rw [y.2.2.2.2 j hj, x.2.2.2.2 j hj]⟩
def PY (q : Nat) (FI FI' AI AI' : Nat → Nat → Int32) (FL FL' : Nat → Nat → Int64) : Prop := FIx FI FI' q rFs ∧ FLx FL FL' q [661] ∧ AIx AI AI' (q + 4) (q + 4)
theorem PZ.y {q : Nat} {FI F1 AI A1 : Nat → Nat → Int32} {FL L1 : Nat → Nat → Int64} (a : PZ q FI F1 AI A1 FL L1) : PY q FI F1 AI A1 FL L1 := ⟨a.1.sub (by decide), a.2.1, a.2.2⟩
theorem PY.trans {q : Nat} {FI F1 F2 AI A1 A2 : Nat → Nat → Int32} {FL L1 L2 : Nat → Nat → Int64} (a : PY q FI F1 AI A1 FL L1) (b : PY q F1 F2 A1 A2 L1 L2) : PY q FI F2 AI A2 FL L2 := ⟨a.1.same b.1, a.2.1.trans b.2.1, a.2.2.trans b.2.2⟩
theorem PY.fi {q k : Nat} {v : Int32} {FI AI : Nat → Nat → Int32} {FL : Nat → Nat → Int64} (hk : k ∈ rFs) : PY q FI (mj_u2 FI k q v) AI AI FL FL := ⟨FIx_u2 hk, FLx.rfl', AIx.rfl'⟩
theorem MEnv.y {K : Nat → Nat × Nat} {FR : Nat → Nat → Option Nat} {FI FI' AI AI' : Nat → Nat → Int32} {FL FL' : Nat → Nat → Int64} {q E : Nat} {T : Nat → Int32} (h : MEnv K FR AI q T E) (z : PY q FI FI' AI AI' FL FL') : MEnv K FR AI' q T E := ⟨h.1, by rw [z.2.2 _ (by omega)]; exact h.2.1, h.2.2⟩
theorem RdS.y {K : Nat → Nat × Nat} {FR : Nat → Nat → Option Nat} {FI FI' AI AI' : Nat → Nat → Int32} {AL FL FL' : Nat → Nat → Int64} {q a : Nat} {S : PS} (h : RdS K FR FI AI AL q a S) (z : PY q FI FI' AI AI' FL FL') : RdS K FR FI' AI' AL q a S := by
  obtain ⟨h1, h2, h3, h4, h5, ⟨nn, ⟨n1, n2⟩, n3⟩, h7, h8, h9⟩ := h
  have hq := h1.2.2.2.2
  have fx : ∀ f, FI' f a = FI f a := fun f => z.1 f a (Or.inl (by omega))
  have ax : ∀ j, AI' (a + j) = AI (a + j) := fun j => z.2.2 _ (by omega)
  refine ⟨h1, h2.fr fx (fun j _ _ => ax j), by rw [fx]; exact h3, by rw [ax 8]; exact h4, h5, ⟨nn, ⟨by rw [fx]; exact n1, n2⟩, by rw [ax 11, ax 12]; exact n3⟩, h7.fr (by rw [Nat.add_assoc]; exact ax _) rfl, h8, h9⟩
theorem PY.rz {q a : Nat} {FI F1 AI A1 : Nat → Nat → Int32} {FL L1 AL : Nat → Nat → Int64} (x : PY q FI F1 AI A1 FL L1) (h : q < a) : RZ q a FI F1 AI A1 FL L1 AL AL := ⟨fun f c _ h2 => x.1 f c h2, x.2.1, fun c _ _ _ h4 => x.2.2 c (by omega), fun _ _ => rfl, fun j _ => by rw [x.2.2 (a + 14) (by omega)]⟩
theorem pWh_bd {T : Nat → Int32} {E l u p : Nat} {x : Nat × Nat} (h : pWh T E l u p = .inr x) : l ≤ x.1 ∧ x.1 ≤ u := by
  unfold pWh at h
  split at h
  · split at h
    · rename_i z
      cases h
      exact z
    · cases h
  · cases h
/-- a bill placed -/
def pPl (T : Nat → Int32) (E : Nat) (S : PS) (p : Nat) : (Nat × Nat) ⊕ (Nat × Nat × Nat × Nat) := bd (pOld T E (sBn S) (wNB (sW S)) p) fun b => bd (pCor T E (sW S) b.1 b.2) fun c => .inr (b.1, c)
def sgs (T : Nat → Int32) (E p : Nat) : (Nat × Nat) ⊕ Nat := if srt T E p = 4 then .inr (stp T E p) else .inl (1, p)
/-- the same, step by step -/
theorem pl_ch {T : Nat → Int32} {E u1 u2 b' : Nat} {S : PS} {res : (Nat × Nat) ⊕ Nat} {v vx vy : Int32} (hb : ∀ x, bd res (kOld T E (sBn S) (wNB (sW S))) = .inr x → v = nI x.1 ∧ x.1 < wNB (sW S)) (hb' : ∀ x, bd res (kOld T E (sBn S) (wNB (sW S))) = .inr x → u1 = wW (sW S) - wBW (sW S) x.1 ∧ u2 = wH (sW S) - wBH (sW S) x.1) (hx : ∀ y, bd (bd (stpr T E (bd (bd res (kOld T E (sBn S) (wNB (sW S)))) fun x => .inr x.2)) (pKey T E 18)) (pWh T E 0 u1) = .inr y → vx = nI y.1) (hy : ∀ y, bd (bd (bd (bd (bd (stpr T E (bd (bd res (kOld T E (sBn S) (wNB (sW S)))) fun x => .inr x.2)) (pKey T E 18)) (pWh T E 0 u1)) fun x => .inr x.2) (sgs T E)) (pWh T E 0 u2) = .inr y → vy = nI y.1) :
    (bd (bd (bd (bd (bd (bd (stpr T E (bd (bd res (kOld T E (sBn S) (wNB (sW S)))) fun x => .inr x.2)) (pKey T E 18)) (pWh T E 0 u1)) fun x => .inr x.2) (sgs T E)) (pWh T E 0 u2)) fun x => .inr x.2) = (bd (bd res (pPl T E S)) fun c => .inr c.2.2.2) ∧ ∀ c, bd res (pPl T E S) = .inr c → v = nI c.1 ∧ vx = nI c.2.1 ∧ vy = nI c.2.2.1 ∧ c.1 < wNB (sW S) ∧ c.2.1 ≤ wW (sW S) - wBW (sW S) c.1 ∧ c.2.2.1 ≤ wH (sW S) - wBH (sW S) c.1 := by
  cases res with
  | inl e => exact ⟨rfl, fun c h => by cases h⟩
  | inr p =>
    simp only [show ∀ (f : Nat → (Nat × Nat) ⊕ (Nat × Nat)), bd (.inr p) f = f p from fun _ => rfl] at hb hb' hx hy ⊢
    show _ = (bd (pPl T E S p) fun c => .inr c.2.2.2) ∧ ∀ c, pPl T E S p = .inr c → _
    unfold pPl
    rw [pOld_k]
    cases e1 : kOld T E (sBn S) (wNB (sW S)) p with
    | inl e => exact ⟨rfl, fun c h => by cases h⟩
    | inr b =>
      obtain ⟨hv, hb2⟩ := hb b e1
      obtain ⟨rfl, rfl⟩ := hb' b e1
      rw [e1] at hx hy
      simp only [bd, stpr] at hx hy ⊢
      unfold pCor
      cases e2 : pKey T E 18 (stp T E b.2) with
      | inl e => exact ⟨rfl, fun c h => by cases h⟩
      | inr p1 =>
        rw [e2] at hx hy
        simp only [bd] at hx hy ⊢
        cases e3 : pWh T E 0 (wW (sW S) - wBW (sW S) b.1) p1 with
        | inl e => exact ⟨rfl, fun c h => by cases h⟩
        | inr x =>
          have hx1 := hx x e3
          rw [e3] at hy
          simp only [sgs] at hy ⊢
          by_cases z : srt T E x.2 = 4
          · simp only [z, if_true] at hy ⊢
            cases e4 : pWh T E 0 (wH (sW S) - wBH (sW S) b.1) (stp T E x.2) with
            | inl e => exact ⟨rfl, fun c h => by cases h⟩
            | inr y =>
              have hy1 := hy y e4
              refine ⟨rfl, fun c h => ?_⟩
              cases h
              exact ⟨hv, hx1, hy1, hb2, (pWh_bd e3).2, (pWh_bd e4).2⟩
          · simp only [z, if_false]
            exact ⟨trivial, fun c h => by cases h⟩
section
variable {sa : Nat → Nat} {d n t h m : Nat} {Q : mj_Q} {K : Nat → Nat × Nat} {FI : Nat → Nat → Int32} {FL : Nat → Nat → Int64} {FR : Nat → Nat → Option Nat} {AI : Nat → Nat → Int32} {AL : Nat → Nat → Int64} {AR : Nat → Nat → Option Nat} {w : Wl} {hs : Nat → Hg}
variable {q E a : Nat} {T : Nat → Int32} {res : (Nat × Nat) ⊕ Nat} {S : PS}
theorem TSt.put {k : Nat} {v : Int32} (hk : k = 662 ∨ k = 663) (h : TSt FI AI FL q T E res) : TSt (mj_u2 FI k q v) AI FL q T E res := by
  have u : ∀ f, f ≠ 662 → f ≠ 663 → mj_u2 FI k q v f q = FI f q := fun f h1 h2 => mj_u2_1 (by omega)
  cases res with
  | inl e =>
    obtain ⟨h1, h2, h3, h4⟩ := h
    exact ⟨by rw [u _ (by decide) (by decide)]; exact h1, by rw [u _ (by decide) (by decide)]; exact h2, by rw [u _ (by decide) (by decide)]; exact h3, by rw [u _ (by decide) (by decide)]; exact h4⟩
  | inr p =>
    obtain ⟨h1, ⟨⟨m1, m1'⟩, m2, m3, m4, m5, m6, m7⟩, h3⟩ := h
    refine ⟨by rw [u _ (by decide) (by decide)]; exact h1, ⟨⟨by rw [u _ (by decide) (by decide)]; exact m1, m1'⟩, ?_, ?_, ?_, ?_, ?_, ?_⟩, by rw [u _ (by decide) (by decide)]; exact h3⟩
    · rw [u _ (by decide) (by decide)]; exact m2
    · rw [u _ (by decide) (by decide)]; exact m3
    · rw [u _ (by decide) (by decide)]; exact m4
    · rw [u _ (by decide) (by decide)]; exact m5
    · rw [u _ (by decide) (by decide)]; exact m6
    · rw [u _ (by decide) (by decide)]; exact m7
theorem c_names {nn : Nat} (k0 : K q = (1, 10)) (r4 : FR 644 q = some a) (hS : MWS K FR a) (hn : FI 584 a = nI nn) (h7 : nn < 7) {L : Int64} {so nu : Int32} (hQ : Q none (n, K, mj_u2 FI 584 a (nI (nn + 1)), FL, FR, mj_u2 (mj_u2 AI (a + 11) nn so) (a + 12) nn nu, mj_u2 AL (a + 10) nn L, AR)) : EV sa (d + 1) 193 [.ref q, .long L, .int so, .int nu] (n, K, FI, FL, FR, AI, AL, AR) Q := by
  obtain ⟨ka, -, -, -, -, -, -, -, -, -, ⟨f10, k10⟩, ⟨f11, k11⟩, ⟨f12, k12⟩⟩ := id hS
  have kin : vp_in (nI nn) 7 := vp_in_nI (by omega) (by decide)
  have kcl : (nI nn).toNatClampNeg = nn := nI_clamp (by omega)
  refine n193 k0 ?_
  simp only [e193_0, e193_1, e193_4, e193_7, e193_8, e193_11, e193_14, e193_15, e193_16, e193_17, e193_20, e193_23, e193_24, e193_27, e193_30, e193_31, e193_32, e193_33, e193_36, e193_39, e193_40, e193_43, e193_46, e193_48, e193_49, e193_50, e193_53, e193_53i, e193_54, e193_57, e193_58, e193_59, e193_62, k0, r4, rf_some, ka, hn, f10, k10, f11, k11, f12, k12, kin, kcl, nI_1, true_and, true_or, or_true]
  exact hQ
theorem RdS.bill (h : RdS K FR FI AI AL q a S) {b : Nat} (hb : b < wNB (sW S)) : wOK (sW S) := by
  rcases h.2.2.2.2.2.2.2.2 with ⟨hp, -⟩ | hw
  · have := hp.1.2.2.2.2.1
    omega
  · exact hw
theorem c_readPlaced (hE : MEnv K FR AI q T E) (h : TSt FI AI FL q T E res) (hR : RdS K FR FI AI AL q a S) (hQ : ∀ (FI' AI' : Nat → Nat → Int32) (FL' : Nat → Nat → Int64) (v : Int32), TSt FI' AI' FL' q T E (bd (bd res (pPl T E S)) fun c => .inr c.2.2.2) → (∀ c, bd res (pPl T E S) = .inr c → v = nI c.1 ∧ FI' 662 q = nI c.2.1 ∧ FI' 663 q = nI c.2.2.1 ∧ onW (sW S) c.1 c.2.1 c.2.2.1) → PY q FI FI' AI AI' FL FL' → Q (some (.int v)) (n, K, FI', FL', FR, AI', AL, AR)) : EV sa (d + 14) 201 [.ref q] (n, K, FI, FL, FR, AI, AL, AR) Q := by
  have k0 := hE.1.1
  obtain ⟨⟨r4, -, hWS, -, hqa⟩, -⟩ := id hR
  obtain ⟨ka, -, ⟨f2, k2⟩, ⟨f3, k3⟩, -⟩ := id hWS
  obtain ⟨b4, -⟩ := hR.bd4
  refine n201 k0 ?_
  simp only [e201_0, e201_1, e201_2, e201_5, e201_6, e201_7, e201_10, e201_11, e201_12, e201_15, e201_16, e201_17, e201_20, e201_23, e201_24, e201_27, e201_30, e201_31, e201_32, e201_33, e201_36, e201_39, e201_40, e201_42, e201_45, e201_48, e201_49, e201_50, e201_53, e201_54, e201_55, e201_56, e201_57, e201_60, e201_63, e201_64, e201_67, e201_70, e201_71, e201_72, e201_73, e201_76, e201_79, e201_80]
  refine ⟨by simp, c_known (names := sBn S) (cnt := wNB (sW S)) hE h hR (Or.inl ⟨nI_0.symm, rfl, rfl⟩) fun F1 v g1 g2 g3 z1 => ?_⟩
  obtain ⟨b', hb4, hv, hbx⟩ : ∃ b', b' < 4 ∧ v = nI b' ∧ ∀ x, bd res (kOld T E (sBn S) (wNB (sW S))) = .inr x → x.1 = b' ∧ b' < wNB (sW S) := by
    cases e : bd res (kOld T E (sBn S) (wNB (sW S))) with
    | inl e' => exact ⟨0, by decide, g3 e' e, fun x hx => by cases hx⟩
    | inr x =>
      obtain ⟨y1, y2⟩ := g2 x e
      exact ⟨x.1, by omega, y1, fun x' hx => by cases hx; exact ⟨rfl, y2⟩⟩
  have bin : vp_in (nI b') 4 := vp_in_nI (by omega) (by decide)
  have bcl : (nI b').toNatClampNeg = b' := nI_clamp (by omega)
  have sub : b' < wNB (sW S) → (nI (wW (sW S)) - AI (a + 2) b' = nI (wW (sW S) - wBW (sW S) b') ∧ nI (wH (sW S)) - AI (a + 3) b' = nI (wH (sW S) - wBH (sW S) b')) ∧ wW (sW S) ≤ 8 ∧ wH (sW S) ≤ 4 ∧ wBW (sW S) b' ≤ wW (sW S) ∧ wBH (sW S) b' ≤ wH (sW S) := fun hb => by
    obtain ⟨w1, w2, -, -, -, -, w3, -⟩ := hR.bill hb
    obtain ⟨-, ⟨-, y1⟩, ⟨-, y2⟩, -⟩ := w3 b' hb
    obtain ⟨-, x2, x3, -⟩ := hR.2.1.2.1 b' hb
    rw [x2, x3, nq_sub y1, nq_sub y2]
    exact ⟨⟨rfl, rfl⟩, w1.2, w2.2, y1, y2⟩
  subst hv
  simp only [tl_some, e201_0, e201_1, e201_2, e201_5, e201_6, e201_7, e201_10, e201_11, e201_12, e201_15, e201_16, e201_17, e201_20, e201_23, e201_24, e201_27, e201_30, e201_31, e201_32, e201_33, e201_36, e201_39, e201_40, e201_42, e201_45, e201_48, e201_49, e201_50, e201_53, e201_54, e201_55, e201_56, e201_57, e201_60, e201_63, e201_64, e201_67, e201_70, e201_71, e201_72, e201_73, e201_76, e201_79, e201_80, mj_kl]
  refine ⟨by simp, c_goesOnS (hE.z z1) g1 (fun p e => ?_) fun F2 A2 L2 g4 z2 => ?_⟩
  · cases res with
    | inl e' => cases e
    | inr p' =>
      have e' : (bd (kOld T E (sBn S) (wNB (sW S)) p') fun x => (.inr x.2 : (Nat × Nat) ⊕ Nat)) = .inr p := e
      unfold kOld at e'
      split at e'
      · rename_i hnm
        have := isNm_1 hnm
        split at e'
        · cases e'
          show srt T E p' ≠ 5
          omega
        · cases e'
      · cases e'
  have hE2 := (hE.z z1).z z2
  have z12 := z1.trans z2
  have hR2 := hR.z z12
  have a2 : A2 (a + 2) = AI (a + 2) := z12.2.2 _ (by omega)
  have m2 := hR2.2.1.1.1
  simp only [tl_none, e201_0, e201_1, e201_2, e201_5, e201_6, e201_7, e201_10, e201_11, e201_12, e201_15, e201_16, e201_17, e201_20, e201_23, e201_24, e201_27, e201_30, e201_31, e201_32, e201_33, e201_36, e201_39, e201_40, e201_42, e201_45, e201_48, e201_49, e201_50, e201_53, e201_54, e201_55, e201_56, e201_57, e201_60, e201_63, e201_64, e201_67, e201_70, e201_71, e201_72, e201_73, e201_76, e201_79, e201_80, k0, r4, rf_some, ka, m2, f2, k2, bin, bcl, a2, true_and]
  refine ⟨by simp, by simp, c_readPart (l := 0) (u := wW (sW S) - wBW (sW S) b') hE2 g4 (by decide) (fun p e => ?_) fun F3 A3 L3 vx g5 g6 z3 => ?_⟩
  · have : ∃ x, bd res (kOld T E (sBn S) (wNB (sW S))) = .inr x := by
      cases y : bd res (kOld T E (sBn S) (wNB (sW S))) with
      | inl e' => rw [y] at e; cases e
      | inr x => exact ⟨x, rfl⟩
    obtain ⟨x, hx⟩ := this
    have := sub (hbx x hx).2
    exact ⟨nI_0.symm, this.1.1, by decide, by omega⟩
  have z13 := z12.trans z3
  have p3 := g5.put (k := 662) (v := vx) (Or.inl rfl)
  have z3p : PY q FI (mj_u2 F3 662 q vx) AI A3 FL L3 := z13.y.trans (PY.fi (by decide))
  have hE3 := hE.y z3p
  simp only [tl_some, e201_0, e201_1, e201_2, e201_5, e201_6, e201_7, e201_10, e201_11, e201_12, e201_15, e201_16, e201_17, e201_20, e201_23, e201_24, e201_27, e201_30, e201_31, e201_32, e201_33, e201_36, e201_39, e201_40, e201_42, e201_45, e201_48, e201_49, e201_50, e201_53, e201_54, e201_55, e201_56, e201_57, e201_60, e201_63, e201_64, e201_67, e201_70, e201_71, e201_72, e201_73, e201_76, e201_79, e201_80, k0, true_and]
  refine ⟨by simp, c_eatsSign (s := 4) hE3 p3 (Or.inr ⟨rfl, rfl⟩) fun F4 A4 L4 g7 z4 => ?_⟩
  obtain ⟨RX, eRX⟩ : ∃ RX, RX = (bd (bd (bd (stpr T E (bd (bd res (kOld T E (sBn S) (wNB (sW S)))) fun x => .inr x.2)) (pKey T E 18)) (pWh T E 0 (wW (sW S) - wBW (sW S) b'))) fun x => .inr x.2) := ⟨_, rfl⟩
  rw [← eRX] at g7 p3
  have fin : ∀ (F : Nat → Nat → Int32), TSt F A4 L4 q T E (bd RX (sgs T E)) → PZ q (mj_u2 F3 662 q vx) F A3 A4 L3 L4 → F 662 q = vx → WP sa (EV sa (d + 13)) 201 Q 0 0 53 [.ref q, .int (nI b')] [] (n, K, F, L4, FR, A4, AL, AR) := by
    intro F hF zF ex
    have zz := z3p.trans zF.y
    have hR4 := hR.y zz
    have a3 : A4 (a + 3) = AI (a + 3) := zz.2.2 _ (by omega)
    have m3 := hR4.2.1.1.2.1
    simp only [e201_0, e201_1, e201_2, e201_5, e201_6, e201_7, e201_10, e201_11, e201_12, e201_15, e201_16, e201_17, e201_20, e201_23, e201_24, e201_27, e201_30, e201_31, e201_32, e201_33, e201_36, e201_39, e201_40, e201_42, e201_45, e201_48, e201_49, e201_50, e201_53, e201_54, e201_55, e201_56, e201_57, e201_60, e201_63, e201_64, e201_67, e201_70, e201_71, e201_72, e201_73, e201_76, e201_79, e201_80, k0, r4, rf_some, ka, m3, f3, k3, bin, bcl, a3, true_and]
    refine ⟨by simp, by simp, c_readWhole (l := 0) (u := wH (sW S) - wBH (sW S) b') (hE.y zz) hF (fun p e => ?_) fun F5 A5 L5 vy g8 g9 z5 => ?_⟩
    · have : ∃ x, bd res (kOld T E (sBn S) (wNB (sW S))) = .inr x := by
        cases y : bd res (kOld T E (sBn S) (wNB (sW S))) with
        | inl e' => rw [eRX, y] at e; cases e
        | inr x => exact ⟨x, rfl⟩
      obtain ⟨x, hx⟩ := this
      have := sub (hbx x hx).2
      exact ⟨nI_0.symm, this.1.2, by decide, by omega⟩
    simp only [tl_some, e201_0, e201_1, e201_2, e201_5, e201_6, e201_7, e201_10, e201_11, e201_12, e201_15, e201_16, e201_17, e201_20, e201_23, e201_24, e201_27, e201_30, e201_31, e201_32, e201_33, e201_36, e201_39, e201_40, e201_42, e201_45, e201_48, e201_49, e201_50, e201_53, e201_54, e201_55, e201_56, e201_57, e201_60, e201_63, e201_64, e201_67, e201_70, e201_71, e201_72, e201_73, e201_76, e201_79, e201_80, k0, true_and]
    rw [eRX] at g8 g9
    obtain ⟨c1, c2⟩ := pl_ch (T := T) (E := E) (S := S) (res := res) (b' := b') (v := nI b') (vx := vx) (vy := vy) (u1 := wW (sW S) - wBW (sW S) b') (u2 := wH (sW S) - wBH (sW S) b') (fun x hx => ⟨by rw [(hbx x hx).1], by rw [(hbx x hx).1]; exact (hbx x hx).2⟩) (fun x hx => by rw [(hbx x hx).1]; exact ⟨rfl, rfl⟩) g6 g9
    rw [c1] at g8
    refine hQ _ A5 L5 _ (g8.put (Or.inr rfl)) (fun c hc => ?_) ((zz.trans z5.y).trans (PY.fi (by decide)))
    obtain ⟨d1, d2, d3, d4, d5, d6⟩ := c2 c hc
    have : b' = c.1 := (nI_eq (by omega) (by omega)).mp d1
    subst this
    have ss := sub d4
    refine ⟨rfl, ?_, by rw [mj_u2_s]; exact d3, d4, by omega, by omega⟩
    rw [mj_u2_1 (by decide), z5.1 662 q (Or.inr (by decide)), ex]
    exact d2
  have e62 : F4 662 q = vx := by rw [z4.1 662 q (Or.inr (by decide)), mj_u2_s]
  rw [← eRX]
  simp only [tl_some, e201_0, e201_1, e201_2, e201_5, e201_6, e201_7, e201_10, e201_11, e201_12, e201_15, e201_16, e201_17, e201_20, e201_23, e201_24, e201_27, e201_30, e201_31, e201_32, e201_33, e201_36, e201_39, e201_40, e201_42, e201_45, e201_48, e201_49, e201_50, e201_54, e201_55, e201_56, e201_57, e201_60, e201_63, e201_64, e201_67, e201_70, e201_71, e201_72, e201_73, e201_76, e201_79, e201_80, bI_eq0]
  refine ⟨fun z => fin F4 ?_ z4 e62, fun z' => ?_⟩
  · rw [ts_nf z] at g7
    cases RX with
    | inl e => exact g7
    | inr p =>
      have z' : srt T E p = 4 := of_decide_eq_true (ts_nf z)
      show TSt F4 A4 L4 q T E (sgs T E p)
      unfold sgs
      rw [if_pos z']
      exact g7
  · have z := Classical.not_not.mp z'
    rw [z] at g7
    refine ⟨by simp, c_flaw (k := 1) (res := RX) (hE3.z z4) g7 fun F5 g8 z5 => ?_⟩
    simp only [tl_none]
    refine fin F5 ?_ (z4.trans z5) (by rw [z5.1 662 q (Or.inr (by decide))]; exact e62)
    cases RX with
    | inl e => exact g8
    | inr p =>
      have z' : ¬ srt T E p = 4 := of_decide_eq_false z
      show TSt F5 A4 L4 q T E (sgs T E p)
      unfold sgs
      rw [if_neg z']
      exact g8
end
