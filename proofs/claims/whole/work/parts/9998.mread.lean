/-! ## the wall that is being read -/
def pkl (l : List Nat) : Nat := pkf (fun i => l.getD i 0) l.length
def nOK (l : List Nat) : Prop := l.length ≤ 8 ∧ ∀ x ∈ l, x < 26
theorem nOK.get {l : List Nat} (h : nOK l) : ∀ j, j < l.length → (fun i => l.getD i 0) j < 26 := fun j hj => by
  show l.getD j 0 < 26
  rw [List.getD_eq_getElem?_getD, List.getElem?_eq_getElem hj, Option.getD_some]
  exact h.2 _ (List.getElem_mem hj)
theorem pkl_inj {l m : List Nat} (h1 : nOK l) (h2 : nOK m) : lN (pkl l) = lN (pkl m) ↔ l = m := by
  have b1 := pkf_40 h1.1 h1.get
  have b2 := pkf_40 h2.1 h2.get
  constructor
  · intro e
    unfold pkl at e
    rw [fb_lN_inj (by omega) (by omega)] at e
    obtain ⟨e1, e2⟩ := pkf_inj h1.get h2.get e
    refine List.ext_getElem e1 fun i hi hj => ?_
    have := e2 i hi
    simp only [List.getD_eq_getElem?_getD, List.getElem?_eq_getElem hi, List.getElem?_eq_getElem hj, Option.getD_some] at this
    exact this
  · intro e; rw [e]
theorem pkl_of {f : Nat → Nat} {k : Nat} : pkl ((List.range k).map f) = pkf f k := by
  unfold pkl
  rw [List.length_map, List.length_range]
  refine pkf_congr fun j hj => ?_
  simp [hj]
theorem wd_ok {T : Nat → Int32} {E p : Nat} (h : srt T E p = 1) : nOK (wd T E p) ∧ pkl (wd T E p) = pkf (lt T p) (wl T E p) := by
  obtain ⟨-, -, -, w8, -, w26⟩ := srt_let h
  refine ⟨⟨by unfold wd; rw [List.length_map, List.length_range]; exact w8, fun x hx => ?_⟩, pkl_of⟩
  unfold wd at hx
  obtain ⟨k, hk, rfl⟩ := List.mem_map.mp hx
  exact w26 k (List.mem_range.mp hk)
/-- the names that were told -/
def NmR (FI AI : Nat → Nat → Int32) (AL : Nat → Nat → Int64) (a : Nat) (S : PS) : Prop := ∃ nn, (FI 584 a = nI nn ∧ nn = wNB (sW S) + wNR (sW S)) ∧ (∀ k, k < nn → (AI (a + 11) k = nI 0 ∧ ∃ b, b < wNB (sW S) ∧ AI (a + 12) k = nI b ∧ AL (a + 10) k = lN (pkl (sBn S b))) ∨ (AI (a + 11) k = nI 1 ∧ ∃ r, r < wNR (sW S) ∧ AI (a + 12) k = nI r ∧ AL (a + 10) k = lN (pkl (sRn S r)))) ∧ (∀ b, b < wNB (sW S) → ∃ k, k < nn ∧ AI (a + 11) k = nI 0 ∧ AI (a + 12) k = nI b ∧ AL (a + 10) k = lN (pkl (sBn S b))) ∧ (∀ r, r < wNR (sW S) → ∃ k, k < nn ∧ AI (a + 11) k = nI 1 ∧ AI (a + 12) k = nI r ∧ AL (a + 10) k = lN (pkl (sRn S r))) ∧ (∀ i j, i < nn → j < nn → AL (a + 10) i = AL (a + 10) j → i = j) ∧ (∀ b, b < wNB (sW S) → nOK (sBn S b)) ∧ ∀ r, r < wNR (sW S) → nOK (sRn S r)
def RdS (K : Nat → Nat × Nat) (FR : Nat → Nat → Option Nat) (FI AI : Nat → Nat → Int32) (AL : Nat → Nat → Int64) (q a : Nat) (S : PS) : Prop :=
  (FR 644 q = some a ∧ FR 646 q = some (a + 13) ∧ MWS K FR a ∧ MHS K FR (a + 13) ∧ q + 13 < a) ∧ MW FI AI a (sW S) ∧ (FI 583 a = nI (sNp S) ∧ sNp S ≤ 10 ∧ wF (sW S) ≤ 4 ∧ sM S = wF (sW S) + sNp S) ∧ (∀ r, r < 3 → AI (a + 8) r = nI (sSh S r) ∧ sSh S r ≤ 20) ∧ (∀ v, v < wNW (sW S) → AL (a + 9) v = lN (pkf (wWT (sW S) v) (wWL (sW S) v))) ∧ NmR FI AI AL a S ∧ MH AI AL (a + 13) (sW S) (sHs S) (sM S) ∧ (∀ k, k < sM S → byOK (gR (sHs S k))) ∧ (Pre (sW S) ∧ sM S = 0 ∨ wOK (sW S))
/-- a name known, and where the token stays -/
def kOld (T : Nat → Int32) (E : Nat) (names : Nat → List Nat) (cnt p : Nat) : (Nat × Nat) ⊕ (Nat × Nat) := if isNm T E p then (match fndL names cnt (wd T E p) with
  | some i => .inr (i, p)
  | none => .inl (2, p)) else .inl (1, p)
theorem pOld_k {T : Nat → Int32} {E : Nat} {names : Nat → List Nat} {cnt p : Nat} : pOld T E names cnt p = bd (kOld T E names cnt p) fun x => .inr (x.1, stp T E x.2) := by
  unfold pOld kOld
  split
  · cases fndL names cnt (wd T E p) <;> rfl
  · rfl
section
variable {sa : Nat → Nat} {d n t h m : Nat} {Q : mj_Q} {K : Nat → Nat × Nat} {FI : Nat → Nat → Int32} {FL : Nat → Nat → Int64} {FR : Nat → Nat → Option Nat} {AI : Nat → Nat → Int32} {AL : Nat → Nat → Int64} {AR : Nat → Nat → Option Nat} {w : Wl} {hs : Nat → Hg}
variable {q E a : Nat} {T : Nat → Int32} {res : (Nat × Nat) ⊕ Nat} {S : PS}
theorem RdS.z {FI' AI' : Nat → Nat → Int32} {FL' : Nat → Nat → Int64} (h : RdS K FR FI AI AL q a S) (z : PZ q FI FI' AI AI' FL FL') : RdS K FR FI' AI' AL q a S := by
  obtain ⟨h1, h2, h3, h4, h5, ⟨nn, ⟨n1, n2⟩, n3⟩, h7, h8, h9⟩ := h
  have hq := h1.2.2.2.2
  have fx : ∀ f, FI' f a = FI f a := fun f => z.1 f a (Or.inl (by omega))
  have ax : ∀ j, AI' (a + j) = AI (a + j) := fun j => z.2.2 _ (by omega)
  refine ⟨h1, h2.fr fx (fun j _ _ => ax j), by rw [fx]; exact h3, by rw [ax 8]; exact h4, h5, ⟨nn, ⟨by rw [fx]; exact n1, n2⟩, by rw [ax 11, ax 12]; exact n3⟩, h7.fr (by rw [Nat.add_assoc]; exact ax _) rfl, h8, h9⟩
theorem RdS.bd4 (h : RdS K FR FI AI AL q a S) : wNB (sW S) ≤ 4 ∧ wNR (sW S) ≤ 3 ∧ wNW (sW S) ≤ 6 ∧ wW (sW S) ≤ 8 ∧ wH (sW S) ≤ 4 ∧ (wW (sW S) = 0 → wNB (sW S) = 0) := by
  rcases h.2.2.2.2.2.2.2.2 with ⟨hp, -⟩ | hw
  · obtain ⟨⟨p1, p2, p3, p4, p5, p6⟩, p7, p8, -⟩ := hp
    omega
  · obtain ⟨a1, a2, a3, a4, a5, a6, -⟩ := hw
    omega
theorem c_mfind {L : Int64} {nn : Nat} (hS : MWS K FR a) (hn : FI 584 a = nI nn) (h7 : nn ≤ 7) (hQ : Q (some (.int (oI (fnd (fun k => decide (AL (a + 10) k = L)) nn) (-1)))) (n, K, FI, FL, FR, AI, AL, AR)) : EV sa (d + 1) 158 [.ref a, .long L] (n, K, FI, FL, FR, AI, AL, AR) Q := by
  obtain ⟨k0, -, -, -, -, -, -, -, -, -, ⟨f10, k10⟩, -⟩ := hS
  have loop : ∀ rr k, k + rr = nn → fnd (fun k => decide (AL (a + 10) k = L)) k = none → WP sa (EV sa d) 158 Q 0 0 2 [.ref a, .long L, mj_u, .int (nI k)] [] (n, K, FI, FL, FR, AI, AL, AR) := by
    intro rr
    induction rr with
    | zero =>
      intro k hk hf
      have hk' : k = nn := by omega
      subst hk'
      rw [hf] at hQ
      rw [e158_2]
      simp only [e158_0, e158_1, e158_3, e158_4, e158_7, e158_10, e158_11, e158_14, e158_15, e158_16, e158_17, e158_18, e158_21, e158_22, e158_23, e158_26, e158_29, e158_30, k0, hn, true_and]
      exact ⟨fun _ => hQ, fun z => absurd (nI_le (Nat.le_refl _) (by omega)) z⟩
    | succ rr ih =>
      intro k hk hf
      have kin : vp_in (nI k) 7 := vp_in_nI (by omega) (by decide)
      have kcl : (nI k).toNatClampNeg = k := nI_clamp (by omega)
      rw [e158_2]
      simp only [e158_0, e158_1, e158_3, e158_4, e158_7, e158_10, e158_11, e158_14, e158_15, e158_16, e158_17, e158_18, e158_21, e158_22, e158_23, e158_26, e158_29, e158_30, k0, hn, f10, k10, rf_some, kin, kcl, lg_cmp_0, nI_1, mj_kl, true_and]
      refine ⟨fun z => absurd z (nI_ge (by omega) (by omega)), fun _ => ⟨fun z => ?_, fun z => ?_⟩⟩
      · have := ih (k + 1) (by omega) (fnd_no hf (decide_eq_false z))
        simpa [mj_u, mj_kl] using this
      · rw [fnd_yes hf (decide_eq_true (Classical.not_not.mp z)) (by omega)] at hQ
        exact hQ
  refine n158 k0 ?_
  simp only [e158_0, e158_1, e158_3, e158_4, e158_7, e158_10, e158_11, e158_14, e158_15, e158_16, e158_17, e158_18, e158_21, e158_22, e158_23, e158_26, e158_29, e158_30, mj_kl]
  have := loop nn 0 (by omega) rfl
  simpa [nI_0, mj_u, mj_kl] using this
theorem c_findWord {L : Int64} {nn : Nat} (hS : MWS K FR a) (hn : FI 581 a = nI nn) (h7 : nn ≤ 6) (hQ : Q (some (.int (oI (fnd (fun k => decide (AL (a + 9) k = L)) nn) (-1)))) (n, K, FI, FL, FR, AI, AL, AR)) : EV sa (d + 1) 159 [.ref a, .long L] (n, K, FI, FL, FR, AI, AL, AR) Q := by
  obtain ⟨k0, -, -, -, -, -, -, -, -, ⟨f9, k9⟩, -⟩ := hS
  have loop : ∀ rr k, k + rr = nn → fnd (fun k => decide (AL (a + 9) k = L)) k = none → WP sa (EV sa d) 159 Q 0 0 2 [.ref a, .long L, mj_u, .int (nI k)] [] (n, K, FI, FL, FR, AI, AL, AR) := by
    intro rr
    induction rr with
    | zero =>
      intro k hk hf
      have hk' : k = nn := by omega
      subst hk'
      rw [hf] at hQ
      rw [e159_2]
      simp only [e159_0, e159_1, e159_3, e159_4, e159_7, e159_10, e159_11, e159_14, e159_15, e159_16, e159_17, e159_18, e159_21, e159_22, e159_23, e159_26, e159_29, e159_30, k0, hn, true_and]
      exact ⟨fun _ => hQ, fun z => absurd (nI_le (Nat.le_refl _) (by omega)) z⟩
    | succ rr ih =>
      intro k hk hf
      have kin : vp_in (nI k) 6 := vp_in_nI (by omega) (by decide)
      have kcl : (nI k).toNatClampNeg = k := nI_clamp (by omega)
      rw [e159_2]
      simp only [e159_0, e159_1, e159_3, e159_4, e159_7, e159_10, e159_11, e159_14, e159_15, e159_16, e159_17, e159_18, e159_21, e159_22, e159_23, e159_26, e159_29, e159_30, k0, hn, f9, k9, rf_some, kin, kcl, lg_cmp_0, nI_1, mj_kl, true_and]
      refine ⟨fun z => absurd z (nI_ge (by omega) (by omega)), fun _ => ⟨fun z => ?_, fun z => ?_⟩⟩
      · have := ih (k + 1) (by omega) (fnd_no hf (decide_eq_false z))
        simpa [mj_u, mj_kl] using this
      · rw [fnd_yes hf (decide_eq_true (Classical.not_not.mp z)) (by omega)] at hQ
        exact hQ
  refine n159 k0 ?_
  simp only [e159_0, e159_1, e159_3, e159_4, e159_7, e159_10, e159_11, e159_14, e159_15, e159_16, e159_17, e159_18, e159_21, e159_22, e159_23, e159_26, e159_29, e159_30, mj_kl]
  have := loop nn 0 (by omega) rfl
  simpa [nI_0, mj_u, mj_kl] using this
/-- what a found name says -/
theorem NmR.found {nn : Nat} {l : List Nat} (h : NmR FI AI AL a S) (hnn : nn = wNB (sW S) + wNR (sW S)) (hl : nOK l) (h4 : wNB (sW S) ≤ 4) (h3 : wNR (sW S) ≤ 3) : (fnd (fun k => decide (AL (a + 10) k = lN (pkl l))) nn = none → fndL (sBn S) (wNB (sW S)) l = none ∧ fndL (sRn S) (wNR (sW S)) l = none) ∧ ∀ k, fnd (fun k => decide (AL (a + 10) k = lN (pkl l))) nn = some k → (AI (a + 11) k = nI 0 ∧ ∃ b, b < wNB (sW S) ∧ AI (a + 12) k = nI b ∧ fndL (sBn S) (wNB (sW S)) l = some b ∧ fndL (sRn S) (wNR (sW S)) l = none) ∨ (AI (a + 11) k = nI 1 ∧ ∃ r, r < wNR (sW S) ∧ AI (a + 12) k = nI r ∧ fndL (sRn S) (wNR (sW S)) l = some r ∧ fndL (sBn S) (wNB (sW S)) l = none) := by
  obtain ⟨n', ⟨-, e2⟩, n3, n4, n5, n6, n7, n8⟩ := h
  have en : n' = nn := by omega
  subst en
  constructor
  · intro hf
    have hf' := fnd_none.mp hf
    constructor
    · refine fnd_none.mpr fun i hi => decide_eq_false fun e => ?_
      obtain ⟨k, k1, -, -, k4⟩ := n4 i hi
      have := hf' k k1
      rw [k4, e] at this
      simp at this
    · refine fnd_none.mpr fun i hi => decide_eq_false fun e => ?_
      obtain ⟨k, k1, -, -, k4⟩ := n5 i hi
      have := hf' k k1
      rw [k4, e] at this
      simp at this
  · intro k hf
    obtain ⟨f1, f2, -⟩ := fnd_some hf
    rw [decide_eq_true_eq] at f2
    have n01 : ¬ nI 0 = nI 1 := by decide
    rcases n3 k f1 with ⟨s0, b, b1, b2, b3⟩ | ⟨s1, r, r1, r2, r3⟩
    · left
      rw [b3] at f2
      have eb := (pkl_inj (n7 b b1) hl).mp f2
      refine ⟨s0, b, b1, b2, ?_, ?_⟩
      · cases hff : fndL (sBn S) (wNB (sW S)) l with
        | none =>
          have := fnd_none.mp hff b b1
          rw [decide_eq_false_iff_not] at this
          exact absurd eb this
        | some i =>
          obtain ⟨i1, i2, -⟩ := fnd_some hff
          rw [decide_eq_true_eq] at i2
          obtain ⟨k', k1, k2, k3, k4⟩ := n4 i i1
          have ek : k' = k := n6 k' k k1 f1 (by rw [k4, b3, i2, eb])
          subst ek
          rw [k3] at b2
          rw [(nI_eq (show i < 2 ^ 31 by omega) (show b < 2 ^ 31 by omega)).mp b2]
      · refine fnd_none.mpr fun i hi => decide_eq_false fun e => ?_
        obtain ⟨k', k1, k2, k3, k4⟩ := n5 i hi
        have ek : k' = k := n6 k' k k1 f1 (by rw [k4, b3, e, eb])
        subst ek
        rw [s0] at k2
        exact n01 k2
    · right
      rw [r3] at f2
      have er := (pkl_inj (n8 r r1) hl).mp f2
      refine ⟨s1, r, r1, r2, ?_, ?_⟩
      · cases hff : fndL (sRn S) (wNR (sW S)) l with
        | none =>
          have := fnd_none.mp hff r r1
          rw [decide_eq_false_iff_not] at this
          exact absurd er this
        | some i =>
          obtain ⟨i1, i2, -⟩ := fnd_some hff
          rw [decide_eq_true_eq] at i2
          obtain ⟨k', k1, k2, k3, k4⟩ := n5 i i1
          have ek : k' = k := n6 k' k k1 f1 (by rw [k4, r3, i2, er])
          subst ek
          rw [k3] at r2
          rw [(nI_eq (show i < 2 ^ 31 by omega) (show r < 2 ^ 31 by omega)).mp r2]
      · refine fnd_none.mpr fun i hi => decide_eq_false fun e => ?_
        obtain ⟨k', k1, k2, k3, k4⟩ := n4 i hi
        have ek : k' = k := n6 k' k k1 f1 (by rw [k4, r3, e, er])
        subst ek
        rw [s1] at k2
        exact n01 k2.symm
theorem c_begins (hE : MEnv K FR AI q T E) (h : TSt FI AI FL q T E res) (hR : RdS K FR FI AI AL q a S) (h5 : ∀ p, res = .inr p → srt T E p ≠ 5) {many most : Int32} {on : Bool} (hQ : ∀ (FI' AI' : Nat → Nat → Int32) (FL' : Nat → Nat → Int64), TSt FI' AI' FL' q T E (bd res (pFirst T E (decide (many ≠ most)) (!(on && decide (wW (sW S) = 0))))) → PZ q FI FI' AI AI' FL FL' → Q none (n, K, FI', FL', FR, AI', AL, AR)) : EV sa (d + 3) 191 [.ref q, .int many, .int most, .int (bI on)] (n, K, FI, FL, FR, AI, AL, AR) Q := by
  have k0 := hE.1.1
  obtain ⟨⟨r4, -, ⟨ka, -⟩, -⟩, -⟩ := id hR
  have h8 := hR.bd4.2.2.2.1
  have w1 : ∀ F' : Nat → Nat → Int32, (∀ f, F' f a = FI f a) → F' 576 a = nI (wW (sW S)) := fun F' e => by rw [e]; exact hR.2.1.1.1
  have hqa := hR.1.2.2.2.2
  -- the last step
  have fin : ∀ (F : Nat → Nat → Int32) (res' : (Nat × Nat) ⊕ Nat), MEnv K FR AI q T E → TSt F AI FL q T E res' → PZ q FI F AI AI FL FL → (∀ p, res' = .inr p → srt T E p ≠ 5) → stpr T E res' = bd res (pFirst T E (decide (many ≠ most)) (!(on && decide (wW (sW S) = 0)))) → WP sa (EV sa (d + 2)) 191 Q 0 0 30 [.ref q, .int many, .int most, .int (bI on)] [] (n, K, F, FL, FR, AI, AL, AR) := by
    intro F res' hE' h' hz h5' e
    simp only [e191_0, e191_1, e191_2, e191_5, e191_6, e191_7, e191_10, e191_11, e191_14, e191_15, e191_18, e191_21, e191_24, e191_25, e191_27, e191_30, e191_31, e191_34]
    refine ⟨by simp, c_goesOnS hE' h' h5' fun F2 A2 L2 g3 g4 => ?_⟩
    simp only [tl_none, e191_0, e191_1, e191_2, e191_5, e191_6, e191_7, e191_10, e191_11, e191_14, e191_15, e191_18, e191_21, e191_24, e191_25, e191_27, e191_30, e191_31, e191_34]
    rw [e] at g3
    exact hQ F2 A2 L2 g3 (hz.trans g4)
  -- whether there is a wall
  have mid : ∀ (F : Nat → Nat → Int32) (res' : (Nat × Nat) ⊕ Nat), MEnv K FR AI q T E → TSt F AI FL q T E res' → PZ q FI F AI AI FL FL → (∀ p, res' = .inr p → srt T E p ≠ 5) → bd res' (fun p => if (!(on && decide (wW (sW S) = 0))) then .inr (stp T E p) else .inl (6, p)) = bd res (pFirst T E (decide (many ≠ most)) (!(on && decide (wW (sW S) = 0)))) → WP sa (EV sa (d + 2)) 191 Q 0 0 10 [.ref q, .int many, .int most, .int (bI on)] [] (n, K, F, FL, FR, AI, AL, AR) := by
    intro F res' hE' h' hz h5' e
    have eF : ∀ f, F f a = FI f a := fun f => hz.1 f a (Or.inl (by omega))
    simp only [e191_10, e191_11, e191_14, e191_15, e191_18, e191_21, e191_24, e191_25, e191_27, k0, r4, rf_some, ka, w1 F eF, bI_eq0, true_and]
    refine ⟨fun z => fin F res' hE' h' hz h5' (by rw [← e, z]; rfl), fun z => ⟨fun z2 => fin F res' hE' h' hz h5' ?_, fun z2 => ⟨by simp, ?_⟩⟩⟩
    · have hw0 : ¬ wW (sW S) = 0 := fun y => z2 (by rw [y]; rfl)
      rw [← e, decide_eq_false hw0, Bool.and_false]
      rfl
    · have hw0 : wW (sW S) = 0 := (nI_eq (show wW (sW S) < 2 ^ 31 by omega) (show 0 < 2 ^ 31 by decide)).mp (Classical.not_not.mp z2)
      rw [decide_eq_true hw0, ts_nf z] at e
      refine c_flaw (k := 6) hE' h' fun F2 g1 g2 => ?_
      simp only [tl_none]
      refine fin F2 _ hE' g1 (hz.trans g2) (fun p y => ?_) ?_
      · cases res' with
        | inl _ => cases y
        | inr _ => cases y
      · rw [decide_eq_true hw0, ts_nf z, ← e]
        cases res' <;> rfl
  refine n191 k0 ?_
  simp only [e191_0, e191_1, e191_2, e191_5, e191_6, e191_7]
  refine ⟨fun z => mid FI res hE h PZ.rfl' h5 ?_, fun z => ⟨by simp, ?_⟩⟩
  · cases res with
    | inl e => rfl
    | inr p =>
      show (if (!(on && decide (wW (sW S) = 0))) = true then (.inr (stp T E p) : (Nat × Nat) ⊕ Nat) else .inl (6, p)) = pFirst T E (decide (many ≠ most)) (!(on && decide (wW (sW S) = 0))) p
      unfold pFirst
      rw [decide_eq_true z, if_pos rfl]
  · have z' := Classical.not_not.mp z
    refine c_flaw (k := 5) hE h fun F2 g1 g2 => ?_
    simp only [tl_none]
    refine mid F2 _ hE g1 g2 (fun p y => ?_) ?_
    · cases res with
      | inl _ => cases y
      | inr _ => cases y
    · cases res with
      | inl e => rfl
      | inr p =>
        show (.inl (5, p) : (Nat × Nat) ⊕ Nat) = pFirst T E (decide (many ≠ most)) (!(on && decide (wW (sW S) = 0))) p
        unfold pFirst
        rw [decide_eq_false (fun y => y z')]
        rfl
theorem c_readFresh (hE : MEnv K FR AI q T E) (h : TSt FI AI FL q T E res) (hR : RdS K FR FI AI AL q a S) (hQ : ∀ (FI' AI' : Nat → Nat → Int32) (FL' : Nat → Nat → Int64) (v : Int64), TSt FI' AI' FL' q T E (bd res (pNew T E S)) → (∀ p p', res = .inr p → pNew T E S p = .inr p' → v = lN (pkl (wd T E p)) ∧ nOK (wd T E p)) → PZ q FI FI' AI AI' FL FL' → Q (some (.long v)) (n, K, FI', FL', FR, AI', AL, AR)) : EV sa (d + 13) 192 [.ref q] (n, K, FI, FL, FR, AI, AL, AR) Q := by
  have k0 := hE.1.1
  obtain ⟨⟨r4, -, hWS, -, hqa⟩, -, -, -, -, hN, -⟩ := id hR
  obtain ⟨b4, b3, -⟩ := hR.bd4
  obtain ⟨nn, ⟨n1, n2⟩, -⟩ := id hN
  -- behind the tests
  have fin : ∀ (F : Nat → Nat → Int32) (res' : (Nat × Nat) ⊕ Nat), TSt F AI FL q T E res' → PZ q FI F AI AI FL FL → (∀ p, res' = .inr p → srt T E p ≠ 5) → stpr T E res' = bd res (pNew T E S) → (∀ p p', res = .inr p → pNew T E S p = .inr p' → FL 661 q = lN (pkl (wd T E p)) ∧ nOK (wd T E p)) → WP sa (EV sa (d + 12)) 192 Q 0 0 32 [.ref q, mj_u, mj_u] [] (n, K, F, FL, FR, AI, AL, AR) := by
    intro F res' h' hz h5' e hv
    simp only [e192_0, e192_1, e192_4, e192_7, e192_8, e192_9, e192_12, e192_13, e192_16, e192_17, e192_20, e192_23, e192_24, e192_27, e192_28, e192_29, e192_32, e192_33, e192_36, e192_37, e192_38, e192_41, e192_42, k0, mj_kl, true_and]
    refine ⟨by simp, c_goesOnS hE h' h5' fun F2 A2 L2 g3 g4 => ?_⟩
    simp only [tl_none, e192_0, e192_1, e192_4, e192_7, e192_8, e192_9, e192_12, e192_13, e192_16, e192_17, e192_20, e192_23, e192_24, e192_27, e192_28, e192_29, e192_32, e192_33, e192_36, e192_37, e192_38, e192_41, e192_42]
    rw [e] at g3
    exact hQ F2 A2 L2 _ g3 hv (hz.trans g4)
  have mid : ∀ (F : Nat → Nat → Int32) (res' : (Nat × Nat) ⊕ Nat), TSt F AI FL q T E res' → PZ q FI F AI AI FL FL → (∀ p, res' = .inr p → isNm T E p = true ∧ res = .inr p) → (∀ e, res' = .inl e → bd res (pNew T E S) = .inl e) → WP sa (EV sa (d + 12)) 192 Q 0 0 12 [.ref q, mj_u, mj_u] [] (n, K, F, FL, FR, AI, AL, AR) := by
    intro F res' h' hz hin hout
    have eF : F 584 a = nI nn := by rw [hz.1 584 a (Or.inl (by omega))]; exact n1
    simp only [e192_12, e192_13, e192_16, e192_17, e192_20, k0, r4, rf_some, true_and]
    refine ⟨by simp, c_mfind hWS eF (by omega) ?_⟩
    simp only [tl_some, e192_23, e192_24, e192_27, e192_28, e192_29]
    cases res' with
    | inl e =>
      have ho := hout e rfl
      have go : ∀ F' : Nat → Nat → Int32, TSt F' AI FL q T E (.inl e) → PZ q FI F' AI AI FL FL → WP sa (EV sa (d + 12)) 192 Q 0 0 32 [.ref q, mj_u, mj_u] [] (n, K, F', FL, FR, AI, AL, AR) := fun F' h'' hz' => fin F' (.inl e) h'' hz' (fun p y => by cases y) (by rw [ho]; rfl) (fun p p' e1 e2 => by subst e1; rw [show bd (.inr p) (pNew T E S) = pNew T E S p from rfl, e2] at ho; cases ho)
      refine ⟨fun _ => go F h' hz, fun _ => ⟨by simp, c_flaw (k := 3) hE h' fun F2 g1 g2 => ?_⟩⟩
      simp only [tl_none]
      exact go F2 g1 (hz.trans g2)
    | inr p =>
      obtain ⟨hnm, er⟩ := hin p rfl
      subst er
      have s1 := isNm_1 hnm
      obtain ⟨hok, hpk⟩ := wd_ok s1
      have hw := (h'.2.1.2.2.2.2.2.1 s1).2.1
      rw [← hpk] at hw
      obtain ⟨fn, fs⟩ := hN.found n2 hok b4 b3
      rw [hw]
      cases hf : fnd (fun k => decide (AL (a + 10) k = lN (pkl (wd T E p)))) nn with
      | none =>
        obtain ⟨x1, x2⟩ := fn hf
        have ep : pNew T E S p = .inr (stp T E p) := by unfold pNew; rw [if_pos hnm, x1, x2]; rfl
        simp only [oI]
        refine ⟨fun _ => fin F (.inr p) h' hz (fun p' y => by cases y; omega) (by show _ = pNew T E S p; rw [ep]; rfl) (fun p1 p' e1 _ => by cases e1; exact ⟨hw, hok⟩), fun z => absurd trivial z⟩
      | some k =>
        have hk := (fnd_some hf).1
        have ep : pNew T E S p = .inl (3, p) := by
          unfold pNew
          rw [if_pos hnm]
          rcases fs k hf with ⟨-, b, -, -, x1, x2⟩ | ⟨-, r, -, -, x1, x2⟩
          · rw [x1, x2]; rfl
          · rw [x1, x2]; rfl
        simp only [oI]
        refine ⟨fun z => ?_, fun _ => ⟨by simp, c_flaw (k := 3) hE h' fun F2 g1 g2 => ?_⟩⟩
        · have h3 : nI k < 0 := by rw [z]; decide
          exact absurd h3 (nI_pos (by omega))
        · simp only [tl_none]
          exact fin F2 _ g1 (hz.trans g2) (fun p' y => by cases y) (by show _ = pNew T E S p; rw [ep]; rfl) (fun p1 p' e1 e2 => by cases e1; rw [ep] at e2; cases e2)
  refine n192 k0 ?_
  simp only [e192_0, e192_1]
  refine ⟨by simp, c_isNameS hE h ?_⟩
  simp only [tl_some, e192_4, e192_7, e192_8, e192_9, bI_eq0]
  refine ⟨fun z => mid FI res h PZ.rfl' (fun p e => ?_) (fun e he => ?_), fun z => ⟨by simp, c_flaw (k := 1) hE h fun F2 g1 g2 => ?_⟩⟩
  · subst e; exact ⟨ts_nf z, rfl⟩
  · subst he; cases (ts_nf z)
  · have z' : isNr T E res = false := by simpa using z
    simp only [tl_none]
    refine mid F2 _ g1 g2 (fun p y => ?_) (fun e he => ?_)
    · cases res with
      | inl _ => cases y
      | inr _ => cases y
    · cases res with
      | inl e' => exact he
      | inr p =>
        rw [← he]
        show pNew T E S p = .inl (1, p)
        unfold pNew
        rw [if_neg (by rw [show isNm T E p = false from z']; decide)]
theorem c_known (hE : MEnv K FR AI q T E) (h : TSt FI AI FL q T E res) (hR : RdS K FR FI AI AL q a S) {so : Int32} {names : Nat → List Nat} {cnt : Nat} (hso : so = nI 0 ∧ names = sBn S ∧ cnt = wNB (sW S) ∨ so = nI 1 ∧ names = sRn S ∧ cnt = wNR (sW S)) (hQ : ∀ (FI' : Nat → Nat → Int32) (v : Int32), TSt FI' AI FL q T E (bd (bd res (kOld T E names cnt)) fun x => .inr x.2) → (∀ x, bd res (kOld T E names cnt) = .inr x → v = nI x.1 ∧ x.1 < cnt) → (∀ e, bd res (kOld T E names cnt) = .inl e → v = nI 0) → PZ q FI FI' AI AI FL FL → Q (some (.int v)) (n, K, FI', FL, FR, AI, AL, AR)) : EV sa (d + 13) 194 [.ref q, .int so] (n, K, FI, FL, FR, AI, AL, AR) Q := by
  have k0 := hE.1.1
  obtain ⟨⟨r4, -, hWS, -, hqa⟩, -, -, -, -, hN, -⟩ := id hR
  obtain ⟨ka, -, -, -, -, -, -, -, -, -, -, ⟨f11, k11⟩, ⟨f12, k12⟩⟩ := id hWS
  obtain ⟨b4, b3, -⟩ := hR.bd4
  obtain ⟨nn, ⟨n1, n2⟩, -⟩ := id hN
  have over : ∀ (F : Nat → Nat → Int32) (e : Nat × Nat) (k : Int32), TSt F AI FL q T E (.inl e) → PZ q FI F AI AI FL FL → bd res (kOld T E names cnt) = .inl e → WP sa (EV sa (d + 12)) 194 Q 0 0 47 [.ref q, .int so, .int k] [] (n, K, F, FL, FR, AI, AL, AR) := by
    intro F e k h' hz he
    simp only [e194_47, e194_48, e194_51, e194_52, e194_55, e194_56, e194_68, k0, h'.2.1, true_and]
    refine ⟨fun z => absurd trivial z, fun _ => hQ F 0 (by rw [he]; exact h') (fun x hx => by rw [he] at hx; cases hx) (fun _ _ => rfl) hz⟩
  have mid : ∀ (F : Nat → Nat → Int32) (res' : (Nat × Nat) ⊕ Nat), TSt F AI FL q T E res' → PZ q FI F AI AI FL FL → (∀ p, res' = .inr p → isNm T E p = true ∧ res = .inr p) → (∀ e, res' = .inl e → bd res (kOld T E names cnt) = .inl e) → WP sa (EV sa (d + 12)) 194 Q 0 0 12 [.ref q, .int so, mj_u] [] (n, K, F, FL, FR, AI, AL, AR) := by
    intro F res' h' hz hin hout
    have eF : F 584 a = nI nn := by rw [hz.1 584 a (Or.inl (by omega))]; exact n1
    simp only [e194_12, e194_13, e194_16, e194_17, e194_20, k0, r4, rf_some, true_and]
    refine ⟨by simp, c_mfind hWS eF (by omega) ?_⟩
    simp only [tl_some, e194_23, e194_24, e194_25, e194_26, mj_kl]
    cases res' with
    | inl e =>
      have ho := hout e rfl
      have fl : ∀ k : Int32, WP sa (EV sa (d + 12)) 194 Q 0 0 42 [.ref q, .int so, .int k] [] (n, K, F, FL, FR, AI, AL, AR) := fun k => by
        simp only [e194_42, e194_43, e194_44]
        refine ⟨by simp, c_flaw (k := 2) hE h' fun F2 g1 g2 => ?_⟩
        simp only [tl_none]
        exact over F2 e k g1 (hz.trans g2) ho
      cases hf : fnd (fun k => decide (AL (a + 10) k = FL 661 q)) nn with
      | none => exact ⟨fun _ => fl _, fun z => absurd rfl z⟩
      | some k =>
        have hk := (fnd_some hf).1
        have kin : vp_in (nI k) 7 := vp_in_nI (by omega) (by decide)
        simp only [oI, e194_29, e194_30, e194_33, e194_36, e194_37, e194_38, e194_39, k0, r4, rf_some, ka, f11, k11, kin, true_and, true_or]
        refine ⟨fun _ => fl _, fun _ => ⟨fun _ => over F e _ h' hz ho, fun _ => fl _⟩⟩
    | inr p =>
      obtain ⟨hnm, er⟩ := hin p rfl
      subst er
      have s1 := isNm_1 hnm
      obtain ⟨hok, hpk⟩ := wd_ok s1
      have hw := (h'.2.1.2.2.2.2.2.1 s1).2.1
      rw [← hpk] at hw
      have e3 := h'.2.1.2.2.1
      obtain ⟨fn, fs⟩ := hN.found n2 hok b4 b3
      rw [hw]
      have bad : ∀ k : Int32, fndL names cnt (wd T E p) = none → WP sa (EV sa (d + 12)) 194 Q 0 0 42 [.ref q, .int so, .int k] [] (n, K, F, FL, FR, AI, AL, AR) := fun k hno => by
        simp only [e194_42, e194_43, e194_44]
        refine ⟨by simp, c_flaw (k := 2) hE h' fun F2 g1 g2 => ?_⟩
        simp only [tl_none]
        refine over F2 (2, p) k g1 (hz.trans g2) ?_
        show kOld T E names cnt p = .inl (2, p)
        unfold kOld
        rw [if_pos hnm, hno]
      have good : ∀ (k i : Nat), k < nn → fndL names cnt (wd T E p) = some i → AI (a + 12) k = nI i → i < cnt → WP sa (EV sa (d + 12)) 194 Q 0 0 47 [.ref q, .int so, .int (nI k)] [] (n, K, F, FL, FR, AI, AL, AR) := fun k i hk hi h12 hic => by
        have kin : vp_in (nI k) 7 := vp_in_nI (by omega) (by decide)
        have kcl : (nI k).toNatClampNeg = k := nI_clamp (by omega)
        have ek : kOld T E names cnt p = .inr (i, p) := by unfold kOld; rw [if_pos hnm, hi]
        simp only [e194_47, e194_48, e194_51, e194_52, e194_59, e194_60, e194_63, e194_66, e194_67, e194_68, k0, e3, r4, rf_some, ka, f12, k12, kin, kcl, h12, true_and, true_or]
        refine ⟨fun _ => hQ F _ ?_ (fun x hx => ?_) (fun e he => ?_) hz, fun z => absurd msr_n5 z⟩
        · show TSt F AI FL q T E (bd (kOld T E names cnt p) fun x => .inr x.2)
          rw [ek]; exact h'
        · have : kOld T E names cnt p = .inr x := hx
          rw [ek] at this
          cases this
          exact ⟨rfl, hic⟩
        · have : kOld T E names cnt p = .inl e := he
          rw [ek] at this
          cases this
      cases hf : fnd (fun k => decide (AL (a + 10) k = lN (pkl (wd T E p)))) nn with
      | none =>
        obtain ⟨x1, x2⟩ := fn hf
        refine ⟨fun _ => bad _ ?_, fun z => absurd rfl z⟩
        rcases hso with ⟨-, rfl, rfl⟩ | ⟨-, rfl, rfl⟩
        · exact x1
        · exact x2
      | some k =>
        have hk := (fnd_some hf).1
        have kin : vp_in (nI k) 7 := vp_in_nI (by omega) (by decide)
        have kcl : (nI k).toNatClampNeg = k := nI_clamp (by omega)
        have nneg : ¬ nI k = -1 := fun e2 => by
          have h3 : nI k < 0 := by rw [e2]; decide
          exact absurd h3 (nI_pos (by omega))
        simp only [oI, e194_29, e194_30, e194_33, e194_36, e194_37, e194_38, e194_39, k0, r4, rf_some, ka, f11, k11, kin, kcl, true_and, true_or]
        refine ⟨fun z => absurd z nneg, fun _ => ?_⟩
        rcases hso with ⟨rfl, rfl, rfl⟩ | ⟨rfl, rfl, rfl⟩
        · rcases fs k hf with ⟨s0, b, c1, c2, c3, c4⟩ | ⟨s0, r, c1, c2, c3, c4⟩
          · exact ⟨fun _ => good k b hk c3 c2 c1, fun z => absurd s0 z⟩
          · exact ⟨fun z => absurd (s0.symm.trans z) (by decide), fun _ => bad _ c4⟩
        · rcases fs k hf with ⟨s0, b, c1, c2, c3, c4⟩ | ⟨s0, r, c1, c2, c3, c4⟩
          · exact ⟨fun z => absurd (s0.symm.trans z) (by decide), fun _ => bad _ c4⟩
          · exact ⟨fun _ => good k r hk c3 c2 c1, fun z => absurd s0 z⟩
  refine n194 k0 ?_
  simp only [e194_0, e194_1]
  refine ⟨by simp, c_isNameS hE h ?_⟩
  simp only [tl_some, e194_4, e194_7, e194_8, e194_9, bI_eq0]
  refine ⟨fun z => mid FI res h PZ.rfl' (fun p e => ?_) (fun e he => ?_), fun z => ⟨by simp, c_flaw (k := 1) hE h fun F2 g1 g2 => ?_⟩⟩
  · subst e; exact ⟨ts_nf z, rfl⟩
  · subst he; cases (ts_nf z)
  · have z' : isNr T E res = false := by simpa using z
    simp only [tl_none]
    refine mid F2 _ g1 g2 (fun p y => ?_) (fun e he => ?_)
    · cases res with
      | inl _ => cases y
      | inr _ => cases y
    · cases res with
      | inl e' =>
        have := Sum.inl.inj (show (.inl e' : (Nat × Nat) ⊕ Nat) = .inl e from he)
        subst this
        rfl
      | inr p =>
        have := Sum.inl.inj (show (.inl (1, p) : (Nat × Nat) ⊕ Nat) = .inl e from he)
        subst this
        show kOld T E names cnt p = .inl (1, p)
        unfold kOld
        rw [if_neg (by rw [show isNm T E p = false from z']; decide)]
end
