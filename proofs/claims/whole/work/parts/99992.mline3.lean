/-! ## the model reads a rival's line -/
theorem NmR.rival {FI FI' AI AI' : Nat → Nat → Int32} {AL AL' : Nat → Nat → Int64} {a nn : Nat} {S S' : PS} {l : List Nat} (h : NmR FI AI AL a S) (hnn : nn = wNB (sW S) + wNR (sW S)) (eO : wNB (sW S') = wNB (sW S)) (eN : wNR (sW S') = wNR (sW S) + 1) (eOn : sBn S' = sBn S) (eNn : sRn S' = upN (sRn S) (wNR (sW S)) l) (hl : nOK l) (fB : fndL (sBn S) (wNB (sW S)) l = none) (fR : fndL (sRn S) (wNR (sW S)) l = none) (e0 : FI' 584 a = nI (nn + 1)) (a11 : ∀ k, k ≠ nn → AI' (a + 11) k = AI (a + 11) k) (b11 : AI' (a + 11) nn = nI 1) (a12 : ∀ k, k ≠ nn → AI' (a + 12) k = AI (a + 12) k) (b12 : AI' (a + 12) nn = nI (wNR (sW S))) (a10 : ∀ k, k ≠ nn → AL' (a + 10) k = AL (a + 10) k) (b10 : AL' (a + 10) nn = lN (pkl l)) : NmR FI' AI' AL' a S' := by
  obtain ⟨n', ⟨-, e2⟩, n3, n4, n5, n6, n7, n8⟩ := h
  have en : n' = nn := by omega
  subst en
  have up0 : ∀ i, i ≠ wNR (sW S) → sRn S' i = sRn S i := fun i hi => by rw [eNn]; unfold upN; rw [if_neg hi]
  have up1 : sRn S' (wNR (sW S)) = l := by rw [eNn]; unfold upN; rw [if_pos rfl]
  have fresh : ∀ k, k < n' → AL (a + 10) k ≠ lN (pkl l) := fun k hk e => by
    rcases n3 k hk with ⟨-, b, b1, -, b3⟩ | ⟨-, r, r1, -, r3⟩
    · rw [b3] at e
      have := (pkl_inj (n7 b b1) hl).mp e
      have z := fnd_none.mp fB b b1
      rw [decide_eq_false_iff_not] at z
      exact z this
    · rw [r3] at e
      have := (pkl_inj (n8 r r1) hl).mp e
      have z := fnd_none.mp fR r r1
      rw [decide_eq_false_iff_not] at z
      exact z this
  refine ⟨n' + 1, ⟨e0, by omega⟩, fun k hk => ?_, fun b hb => ?_, fun r hr => ?_, fun i j hi hj e => ?_, fun b hb => ?_, fun r hr => ?_⟩
  · by_cases z : k = n'
    · subst z
      right
      exact ⟨b11, wNR (sW S), by omega, b12, by rw [up1]; exact b10⟩
    · rw [a11 k z, a12 k z, a10 k z]
      rcases n3 k (by omega) with ⟨s0, b, b1, b2, b3⟩ | ⟨s0, b, b1, b2, b3⟩
      · refine Or.inl ⟨s0, b, by omega, b2, ?_⟩
        rw [eOn]; exact b3
      · refine Or.inr ⟨s0, b, by omega, b2, ?_⟩
        rw [up0 b (by omega)]; exact b3
  · obtain ⟨k, k1, k2, k3, k4⟩ := n4 b (by omega)
    have z : k ≠ n' := by omega
    refine ⟨k, by omega, by rw [a11 k z]; exact k2, by rw [a12 k z]; exact k3, ?_⟩
    rw [a10 k z, eOn]; exact k4
  · by_cases z0 : r = wNR (sW S)
    · subst z0
      exact ⟨n', by omega, b11, b12, by rw [up1]; exact b10⟩
    · obtain ⟨k, k1, k2, k3, k4⟩ := n5 r (by omega)
      have z : k ≠ n' := by omega
      refine ⟨k, by omega, by rw [a11 k z]; exact k2, by rw [a12 k z]; exact k3, ?_⟩
      rw [a10 k z, up0 r z0]; exact k4
  · by_cases z1 : i = n'
    · by_cases z2 : j = n'
      · omega
      · subst z1
        rw [b10, a10 j z2] at e
        exact absurd e.symm (fresh j (by omega))
    · by_cases z2 : j = n'
      · subst z2
        rw [b10, a10 i z1] at e
        exact absurd e (fresh i (by omega))
      · rw [a10 i z1, a10 j z2] at e
        exact n6 i j (by omega) (by omega) e
  · rw [eOn]; exact n7 b (by omega)
  · by_cases z0 : r = wNR (sW S)
    · subst z0; rw [up1]; exact hl
    · rw [up0 r z0]; exact n8 r (by omega)
theorem NmR.bill {FI FI' AI AI' : Nat → Nat → Int32} {AL AL' : Nat → Nat → Int64} {a nn : Nat} {S S' : PS} {l : List Nat} (h : NmR FI AI AL a S) (hnn : nn = wNB (sW S) + wNR (sW S)) (eO : wNR (sW S') = wNR (sW S)) (eN : wNB (sW S') = wNB (sW S) + 1) (eOn : sRn S' = sRn S) (eNn : sBn S' = upN (sBn S) (wNB (sW S)) l) (hl : nOK l) (fB : fndL (sBn S) (wNB (sW S)) l = none) (fR : fndL (sRn S) (wNR (sW S)) l = none) (e0 : FI' 584 a = nI (nn + 1)) (a11 : ∀ k, k ≠ nn → AI' (a + 11) k = AI (a + 11) k) (b11 : AI' (a + 11) nn = nI 0) (a12 : ∀ k, k ≠ nn → AI' (a + 12) k = AI (a + 12) k) (b12 : AI' (a + 12) nn = nI (wNB (sW S))) (a10 : ∀ k, k ≠ nn → AL' (a + 10) k = AL (a + 10) k) (b10 : AL' (a + 10) nn = lN (pkl l)) : NmR FI' AI' AL' a S' := by
  obtain ⟨n', ⟨-, e2⟩, n3, n4, n5, n6, n7, n8⟩ := h
  have en : n' = nn := by omega
  subst en
  have up0 : ∀ i, i ≠ wNB (sW S) → sBn S' i = sBn S i := fun i hi => by rw [eNn]; unfold upN; rw [if_neg hi]
  have up1 : sBn S' (wNB (sW S)) = l := by rw [eNn]; unfold upN; rw [if_pos rfl]
  have fresh : ∀ k, k < n' → AL (a + 10) k ≠ lN (pkl l) := fun k hk e => by
    rcases n3 k hk with ⟨-, b, b1, -, b3⟩ | ⟨-, r, r1, -, r3⟩
    · rw [b3] at e
      have := (pkl_inj (n7 b b1) hl).mp e
      have z := fnd_none.mp fB b b1
      rw [decide_eq_false_iff_not] at z
      exact z this
    · rw [r3] at e
      have := (pkl_inj (n8 r r1) hl).mp e
      have z := fnd_none.mp fR r r1
      rw [decide_eq_false_iff_not] at z
      exact z this
  refine ⟨n' + 1, ⟨e0, by omega⟩, fun k hk => ?_, fun b hb => ?_, fun r hr => ?_, fun i j hi hj e => ?_, fun b hb => ?_, fun r hr => ?_⟩
  · by_cases z : k = n'
    · subst z
      left
      exact ⟨b11, wNB (sW S), by omega, b12, by rw [up1]; exact b10⟩
    · rw [a11 k z, a12 k z, a10 k z]
      rcases n3 k (by omega) with ⟨s0, b, b1, b2, b3⟩ | ⟨s0, b, b1, b2, b3⟩
      · refine Or.inl ⟨s0, b, by omega, b2, ?_⟩
        rw [up0 b (by omega)]; exact b3
      · refine Or.inr ⟨s0, b, by omega, b2, ?_⟩
        rw [eOn]; exact b3
  · by_cases z0 : b = wNB (sW S)
    · subst z0
      exact ⟨n', by omega, b11, b12, by rw [up1]; exact b10⟩
    · obtain ⟨k, k1, k2, k3, k4⟩ := n4 b (by omega)
      have z : k ≠ n' := by omega
      refine ⟨k, by omega, by rw [a11 k z]; exact k2, by rw [a12 k z]; exact k3, ?_⟩
      rw [a10 k z, up0 b z0]; exact k4
  · obtain ⟨k, k1, k2, k3, k4⟩ := n5 r (by omega)
    have z : k ≠ n' := by omega
    refine ⟨k, by omega, by rw [a11 k z]; exact k2, by rw [a12 k z]; exact k3, ?_⟩
    rw [a10 k z, eOn]; exact k4
  · by_cases z1 : i = n'
    · by_cases z2 : j = n'
      · omega
      · subst z1
        rw [b10, a10 j z2] at e
        exact absurd e.symm (fresh j (by omega))
    · by_cases z2 : j = n'
      · subst z2
        rw [b10, a10 i z1] at e
        exact absurd e (fresh i (by omega))
      · rw [a10 i z1, a10 j z2] at e
        exact n6 i j (by omega) (by omega) e
  · by_cases z0 : b = wNB (sW S)
    · subst z0; rw [up1]; exact hl
    · rw [up0 b z0]; exact n7 b (by omega)
  · rw [eOn]; exact n8 r (by omega)
theorem pNew_inr {T : Nat → Int32} {E p p' : Nat} {S : PS} (h : pNew T E S p = .inr p') : isNm T E p = true ∧ p' = stp T E p ∧ fndL (sBn S) (wNB (sW S)) (wd T E p) = none ∧ fndL (sRn S) (wNR (sW S)) (wd T E p) = none := by
  unfold pNew at h
  split at h
  · rename_i z
    split at h
    · cases h
    · rename_i z2
      cases h
      refine ⟨z, rfl, ?_, ?_⟩
      · cases y : fndL (sBn S) (wNB (sW S)) (wd T E p) with
        | none => rfl
        | some i => rw [y] at z2; simp at z2
      · cases y : fndL (sRn S) (wNR (sW S)) (wd T E p) with
        | none => rfl
        | some i => rw [y] at z2; simp at z2
  · cases h
def sRiv (S : PS) (x : Nat) (l : List Nat) : PS := (w_riv (sW S), sHs S, sM S, upN (sSh S) (wNR (sW S)) x, sNp S, sBn S, upN (sRn S) (wNR (sW S)) l)
theorem riv_ch {T : Nat → Int32} {E p : Nat} {S : PS} {r1 : (Nat × Nat) ⊕ Nat} {v : Int64} {vs : Int32} (hr : r1 = pFirst T E (decide (wNR (sW S) < 3)) true p) (h1 : ∀ p1 p2, r1 = .inr p1 → pNew T E S p1 = .inr p2 → v = lN (pkl (wd T E p1)) ∧ nOK (wd T E p1)) (h2 : ∀ y, rp T E (bd r1 (pNew T E S)) 12 0 20 = .inr y → vs = nI y.1) :
    (∃ e, r2 (rp T E (bd r1 (pNew T E S)) 12 0 20) = .inl e ∧ pRival T E p S = .inl e) ∨ ∃ (p1 : Nat) (x : Nat × Nat), r2 (rp T E (bd r1 (pNew T E S)) 12 0 20) = .inr x.2 ∧ pRival T E p S = .inr (x.2, sRiv S x.1 (wd T E p1)) ∧ wNR (sW S) < 3 ∧ v = lN (pkl (wd T E p1)) ∧ nOK (wd T E p1) ∧ vs = nI x.1 ∧ x.1 ≤ 20 ∧ fndL (sBn S) (wNB (sW S)) (wd T E p1) = none ∧ fndL (sRn S) (wNR (sW S)) (wd T E p1) = none := by
  unfold pRival
  rw [← hr]
  simp only [rp_bd]
  cases e1 : r1 with
  | inl e => exact Or.inl ⟨e, rfl, rfl⟩
  | inr p1 =>
    have h3 : wNR (sW S) < 3 := by
      rw [e1] at hr
      unfold pFirst at hr
      split at hr
      · rename_i z; simpa using z
      · cases hr
    rw [e1] at h2
    cases e2 : pNew T E S p1 with
    | inl e => exact Or.inl ⟨e, by show r2 (rp T E (pNew T E S p1) 12 0 20) = _; rw [e2]; rfl, by show bd (pNew T E S p1) _ = _; rw [e2]; rfl⟩
    | inr p2 =>
      obtain ⟨c1, c2⟩ := h1 p1 p2 e1 e2
      obtain ⟨-, -, c3, c4⟩ := pNew_inr e2
      have e0 : rp T E (bd (.inr p1) (pNew T E S)) 12 0 20 = rp T E (.inr p2) 12 0 20 := by show rp T E (pNew T E S p1) 12 0 20 = _; rw [e2]
      rw [e0] at h2 ⊢
      have e0' : ∀ (F : Nat → (Nat × Nat) ⊕ (Nat × PS)), bd (.inr p1) (fun p1 => bd (pNew T E S p1) F) = F p2 := fun F => by show bd (pNew T E S p1) F = _; rw [e2]; rfl
      cases e3 : rp T E (.inr p2) 12 0 20 with
      | inl e =>
        refine Or.inl ⟨e, rfl, ?_⟩
        show bd (pNew T E S p1) _ = _
        rw [e2]
        show bd (rp T E (.inr p2) 12 0 20) _ = _
        rw [e3]; rfl
      | inr x =>
        refine Or.inr ⟨p1, x, rfl, ?_, h3, c1, c2, h2 x e3, (rp_le e3).2, c3, c4⟩
        show bd (pNew T E S p1) _ = _
        rw [e2]
        show bd (rp T E (.inr p2) 12 0 20) _ = _
        rw [e3]; rfl
section
variable {sa : Nat → Nat} {d n t h m : Nat} {Q : mj_Q} {K : Nat → Nat × Nat} {FI : Nat → Nat → Int32} {FL : Nat → Nat → Int64} {FR : Nat → Nat → Option Nat} {AI : Nat → Nat → Int32} {AL : Nat → Nat → Int64} {AR : Nat → Nat → Option Nat} {w : Wl} {hs : Nat → Hg}
variable {q E a p : Nat} {T : Nat → Int32} {res : (Nat × Nat) ⊕ Nat} {S : PS}
theorem RdS.riv (h : RdS K FR FI AI AL q a S) {x nn : Nat} {l : List Nat} (hn : nn = wNB (sW S) + wNR (sW S)) (h3 : wNR (sW S) < 3) (hx : x ≤ 20) (hl : nOK l) (fB : fndL (sBn S) (wNB (sW S)) l = none) (fR : fndL (sRn S) (wNR (sW S)) l = none) : RdS K FR (mj_u2 (mj_u2 FI 584 a (nI (nn + 1))) 580 a (nI (wNR (sW S) + 1))) (mj_u2 (mj_u2 (mj_u2 AI (a + 11) nn (nI 1)) (a + 12) nn (nI (wNR (sW S)))) (a + 8) (wNR (sW S)) (nI x)) (mj_u2 AL (a + 10) nn (lN (pkl l))) q a (sRiv S x l) := by
  obtain ⟨h1, h2, h3', h4, h5, h6, h7, h8, h9⟩ := h
  have fx : ∀ f, f ≠ 584 → f ≠ 580 → mj_u2 (mj_u2 FI 584 a (nI (nn + 1))) 580 a (nI (wNR (sW S) + 1)) f a = FI f a := fun f e1 e2 => by rw [mj_u2_1 e2, mj_u2_1 e1]
  have ax : ∀ c, c ≠ a + 11 → c ≠ a + 12 → c ≠ a + 8 → (mj_u2 (mj_u2 (mj_u2 AI (a + 11) nn (nI 1)) (a + 12) nn (nI (wNR (sW S)))) (a + 8) (wNR (sW S)) (nI x)) c = AI c := fun c e1 e2 e3 => by funext j; rw [mj_u2_1 e3, mj_u2_1 e2, mj_u2_1 e1]
  have lx : ∀ c, c ≠ a + 10 → mj_u2 AL (a + 10) nn (lN (pkl l)) c = AL c := fun c e1 => by funext j; rw [mj_u2_1 e1]
  obtain ⟨⟨m1, m2, m3, m4, m5, m6, m7, m8⟩, mb, mw⟩ := h2
  refine ⟨h1, ⟨⟨?_, ?_, ?_, ?_, mj_u2_s, ?_, ?_, ?_⟩, ?_, ?_⟩, ?_, fun r hr => ?_, ?_, ?_, ?_, h8, ?_⟩
  · rw [fx _ (by decide) (by decide)]; exact m1
  · rw [fx _ (by decide) (by decide)]; exact m2
  · rw [fx _ (by decide) (by decide)]; exact m3
  · rw [fx _ (by decide) (by decide)]; exact m4
  · rw [fx _ (by decide) (by decide)]; exact m6
  · rw [fx _ (by decide) (by decide)]; exact m7
  · rw [fx _ (by decide) (by decide)]; exact m8
  · rw [ax _ (by omega) (by omega) (by omega), ax _ (by omega) (by omega) (by omega), ax _ (by omega) (by omega) (by omega), ax _ (by omega) (by omega) (by omega), ax _ (by omega) (by omega) (by omega)]; exact mb
  · rw [ax _ (by omega) (by omega) (by omega), ax _ (by omega) (by omega) (by omega)]; exact mw
  · rw [fx _ (by decide) (by decide)]; exact h3'
  · show mj_u2 _ (a + 8) (wNR (sW S)) (nI x) (a + 8) r = nI (upN (sSh S) (wNR (sW S)) x r) ∧ upN (sSh S) (wNR (sW S)) x r ≤ 20
    unfold upN
    by_cases z : r = wNR (sW S)
    · subst z; rw [if_pos rfl, mj_u2_s]; exact ⟨rfl, hx⟩
    · rw [if_neg z, mj_u2_2 z, mj_u2_1 (by omega), mj_u2_1 (by omega)]; exact h4 r hr
  · rw [lx _ (by omega)]; exact h5
  · refine NmR.rival h6 hn rfl rfl rfl rfl hl fB fR (by rw [mj_u2_1 (by decide), mj_u2_s]) (fun k hk => ?_) ?_ (fun k hk => ?_) ?_ (fun k hk => mj_u2_2 hk) mj_u2_s
    · rw [mj_u2_1 (by omega), mj_u2_1 (by omega), mj_u2_2 hk]
    · rw [mj_u2_1 (by omega), mj_u2_1 (by omega), mj_u2_s]
    · rw [mj_u2_1 (by omega), mj_u2_2 hk, mj_u2_1 (by omega)]
    · rw [mj_u2_1 (by omega), mj_u2_s]
  · exact h7.fr (ax _ (by omega) (by omega) (by omega)) (lx _ (by omega))
  · rcases h9 with ⟨⟨s1, s2, s3⟩, s4⟩ | ⟨w1, w2, w3, w4, w5, w6⟩
    · exact Or.inl ⟨⟨s1, (by show wNR (sW S) + 1 ≤ 3; omega), s3⟩, s4⟩
    · exact Or.inr ⟨w1, w2, w3, w4, (by show wNR (sW S) + 1 ≤ 3; omega), w6⟩
theorem c_mreadRival (hE : MEnv K FR AI q T E) (h : TSt FI AI FL q T E (.inr p)) (hs : srt T E p = 1) (hR : RdS K FR FI AI AL q a S) (hQ : ∀ (FI' AI' : Nat → Nat → Int32) (FL' AL' : Nat → Nat → Int64) (S' : PS), TSt FI' AI' FL' q T E (bd (pRival T E p S) fun x => .inr x.1) → (∀ x, pRival T E p S = .inr x → S' = x.2) → RdS K FR FI' AI' AL' q a S' → RZ q a FI FI' AI AI' FL FL' AL AL' → Q none (n, K, FI', FL', FR, AI', AL', AR)) : EV sa (d + 14) 199 [.ref q] (n, K, FI, FL, FR, AI, AL, AR) Q := by
  have k0 := hE.1.1
  obtain ⟨⟨r4, -, hWS, -, hqa⟩, ⟨⟨-, -, -, -, m5, -⟩, -⟩, -⟩ := id hR
  have ka := hWS.1
  obtain ⟨f8, k8⟩ := hWS.2.2.2.2.2.2.2.2.1
  obtain ⟨b4, b3, -⟩ := hR.bd4
  refine n199 k0 ?_
  simp only [e199_0, e199_1, e199_2, e199_5, e199_8, e199_9, e199_10, e199_13, e199_14, e199_17, e199_18, e199_19, e199_22, e199_23, e199_25, e199_28, e199_29, e199_30, e199_33, e199_34, e199_37, e199_38, e199_39, e199_40, e199_41, e199_42, e199_45, e199_48, e199_51, e199_52, e199_55, e199_58, e199_59, e199_62, e199_65, e199_66, e199_67, e199_68, e199_71, e199_71i, e199_72, e199_75, e199_76, e199_77, e199_80, k0, r4, rf_some, ka, m5, true_and]
  refine ⟨by simp, c_begins (on := false) hE h hR (fun p' e => by cases e; omega) fun F1 A1 L1 g1 z1 => ?_⟩
  obtain ⟨r1, er1⟩ : ∃ r1, r1 = pFirst T E (decide (wNR (sW S) < 3)) true p := ⟨_, rfl⟩
  replace g1 : TSt F1 A1 L1 q T E r1 := by
    rw [er1, show decide (wNR (sW S) < 3) = decide (nI (wNR (sW S)) ≠ 3) from decide_eq_decide.mpr ⟨fun y z => by have := (nI_eq (show wNR (sW S) < 2 ^ 31 by omega) (show 3 < 2 ^ 31 by decide)).mp z; omega, fun y => by rcases Nat.lt_or_ge (wNR (sW S)) 3 with z | z; exact z; exact absurd (by rw [show wNR (sW S) = 3 by omega]; rfl) y⟩]
    exact g1
  have hE1 := hE.z z1
  have hR1 := hR.z z1
  simp only [tl_none, e199_0, e199_1, e199_2, e199_5, e199_8, e199_9, e199_10, e199_13, e199_14, e199_17, e199_18, e199_19, e199_22, e199_23, e199_25, e199_28, e199_29, e199_30, e199_33, e199_34, e199_37, e199_38, e199_39, e199_40, e199_41, e199_42, e199_45, e199_48, e199_51, e199_52, e199_55, e199_58, e199_59, e199_62, e199_65, e199_66, e199_67, e199_68, e199_71, e199_71i, e199_72, e199_75, e199_76, e199_77, e199_80, mj_kl]
  refine ⟨by simp, c_readFresh hE1 g1 hR1 fun F2 A2 L2 v g2 y2 z2 => ?_⟩
  have hE2 := hE1.z z2
  simp only [tl_some, e199_0, e199_1, e199_2, e199_5, e199_8, e199_9, e199_10, e199_13, e199_14, e199_17, e199_18, e199_19, e199_22, e199_23, e199_25, e199_28, e199_29, e199_30, e199_33, e199_34, e199_37, e199_38, e199_39, e199_40, e199_41, e199_42, e199_45, e199_48, e199_51, e199_52, e199_55, e199_58, e199_59, e199_62, e199_65, e199_66, e199_67, e199_68, e199_71, e199_71i, e199_72, e199_75, e199_76, e199_77, e199_80, mj_kl]
  refine ⟨by simp, c_readPart (l := 0) (u := 20) hE2 g2 (by decide) (fun _ _ => ⟨rfl, rfl, by decide, by decide⟩) fun F3 A3 L3 vs g3 y3 z3 => ?_⟩
  have z03 := (z1.trans z2).trans z3
  have hR3 := hR.z z03
  replace g3 : TSt F3 A3 L3 q T E (r2 (rp T E (bd r1 (pNew T E S)) 12 0 20)) := g3
  rcases riv_ch er1 y2 y3 with ⟨e, f1, f2⟩ | ⟨p1, x, f1, f2, f3, rfl, f4, rfl, f5, f6, f7⟩
  · rw [f1] at g3
    have s5 := g3.2.1
    simp only [tl_some, e199_0, e199_1, e199_2, e199_5, e199_8, e199_9, e199_10, e199_13, e199_14, e199_17, e199_18, e199_19, e199_22, e199_23, e199_25, e199_28, e199_29, e199_30, e199_33, e199_34, e199_37, e199_38, e199_39, e199_40, e199_41, e199_42, e199_45, e199_48, e199_51, e199_52, e199_55, e199_58, e199_59, e199_62, e199_65, e199_66, e199_67, e199_68, e199_71, e199_71i, e199_72, e199_75, e199_76, e199_77, e199_80, k0, s5, mj_kl, true_and]
    refine ⟨fun z => absurd trivial z, fun _ => hQ F3 A3 L3 AL S ?_ (fun x hx => ?_) hR3 (z03.y.rz (by omega))⟩
    · rw [f2]; exact g3
    · rw [f2] at hx; cases hx
  · rw [f1] at g3
    have s5 := g3.2.1.2.2.1
    obtain ⟨⟨-, -, -, -, m5', -⟩, -⟩ := hR3.2.1
    obtain ⟨nn, ⟨n1, n2⟩, -⟩ := hR3.2.2.2.2.2.1
    have kin : vp_in (nI (wNR (sW S))) 3 := vp_in_nI (by omega) (by decide)
    have kcl : (nI (wNR (sW S))).toNatClampNeg = wNR (sW S) := nI_clamp (by omega)
    have u0 : ∀ v, mj_u2 F3 584 a v 580 a = nI (wNR (sW S)) := fun v => by rw [mj_u2_1 (by decide)]; exact m5'
    simp only [tl_some, e199_0, e199_1, e199_2, e199_5, e199_8, e199_9, e199_10, e199_13, e199_14, e199_17, e199_18, e199_19, e199_22, e199_23, e199_25, e199_28, e199_29, e199_30, e199_33, e199_34, e199_37, e199_38, e199_39, e199_40, e199_41, e199_42, e199_45, e199_48, e199_51, e199_52, e199_55, e199_58, e199_59, e199_62, e199_65, e199_66, e199_67, e199_68, e199_71, e199_71i, e199_72, e199_75, e199_76, e199_77, e199_80, k0, s5, r4, rf_some, ka, m5', mj_kl, true_and]
    refine ⟨fun _ => ⟨by simp, c_names k0 r4 hWS n1 (by omega) ?_⟩, fun z => absurd msr_n5 z⟩
    simp only [tl_none, e199_0, e199_1, e199_2, e199_5, e199_8, e199_9, e199_10, e199_13, e199_14, e199_17, e199_18, e199_19, e199_22, e199_23, e199_25, e199_28, e199_29, e199_30, e199_33, e199_34, e199_37, e199_38, e199_39, e199_40, e199_41, e199_42, e199_45, e199_48, e199_51, e199_52, e199_55, e199_58, e199_59, e199_62, e199_65, e199_66, e199_67, e199_68, e199_71, e199_71i, e199_72, e199_75, e199_76, e199_77, e199_80, k0, r4, rf_some, ka, f8, k8, u0, kin, kcl, nI_1, true_and, true_or, or_true]
    have ub : ∀ (k : Nat) (v : Int32) (F : Nat → Nat → Int32) (f : Nat) (c : Nat), c < a → mj_u2 F k a v f c = F f c := fun k v F f c hc => mj_u2_2 (by omega)
    refine hQ _ _ L3 _ (sRiv S x.1 (wd T E p1)) ?_ (fun x hx => ?_) (hR3.riv n2 f3 f5 f4 f6 f7) ((z03.y.rz (by omega)).trans (RZ.at' (fun f c hc => ?_) (fun c hc => ?_) (fun c hc => ?_) (fun j hj => ?_)))
    · rw [f2]
      exact g3.fr (fun f => by rw [ub _ _ _ _ _ (by omega), ub _ _ _ _ _ (by omega)]) (by funext j; rw [mj_u2_1 (by omega), mj_u2_1 (by omega), mj_u2_1 (by omega)])
    · rw [f2] at hx; cases hx; rfl
    · rw [ub _ _ _ _ _ hc, ub _ _ _ _ _ hc]
    · funext j; rw [mj_u2_1 (by omega), mj_u2_1 (by omega), mj_u2_1 (by omega)]
    · funext j; rw [mj_u2_1 (by omega)]
    · rw [mj_u2_1 (by omega), mj_u2_1 (by omega), mj_u2_1 (by omega)]
end
