section
variable {sa : Nat → Nat} {d n t h m : Nat} {Q : mj_Q} {K : Nat → Nat × Nat} {FI : Nat → Nat → Int32} {FL : Nat → Nat → Int64} {FR : Nat → Nat → Option Nat} {AI : Nat → Nat → Int32} {AL : Nat → Nat → Int64} {AR : Nat → Nat → Option Nat} {w : Wl} {hs : Nat → Hg}
variable {q E a p : Nat} {T : Nat → Int32} {S : PS} {P : PG}
theorem c_wallEnd {K' : Nat → Nat × Nat} {FR' : Nat → Nat → Option Nat} {F A : Nat → Nat → Int32} {L M : Nat → Nat → Int64} {k : Int32} {kk zz : Nat} (hI : MInv q P n K FR FI AI AL) (hk : 0 ≤ k ∧ k ≤ nI (gZ P)) (hK : ∀ c, c < n → K' c = K c) (hR : ∀ f c, c < n → (c ≠ q ∨ (f ≠ 644 ∧ f ≠ 646)) → FR' f c = FR f c) (r4 : FR' 644 q = some n) (r6 : FR' 646 q = some (n + 13)) (hF : ∀ f c, c < n → c ≠ q → F f c = FI f c) (h666 : F 666 q = FI 666 q) (h667 : F 667 q = FI 667 q) (h650 : F 650 q = 0) (hL' : ∀ f c, c < n → c ≠ q → L f c = FL f c) (hA : ∀ c, c < n → c ≠ q + 1 → c ≠ q + 2 → c ≠ q + 4 → A c = AI c) (hM : ∀ c, c < n → M c = AL c) (hA0 : ∀ j, 121 ≤ j → A (n + 14) j = 0)
    (o1 : ∀ e, pText (gT P) k.toNatClampNeg = .inl e → F 658 q = nI e.1 ∧ F 659 q = nI e.2) (o2 : ∀ S, pText (gT P) k.toNatClampNeg = .inr S → F 658 q = 0 ∧ RdS K' FR' F A M q n S)
    (hQ : ∀ μ', InvM q (sp_wall P k).2 μ' → FrM q (n, K, FI, FL, FR, AI, AL, AR) μ' → Q (some (.int (sp_wall P k).1)) μ') : WP sa (EV sa (d + 2)) 205 Q kk zz 78 [.ref q, .int k, mj_u] [] (n + 16, K', F, L, FR', A, M, AR) := by
  obtain ⟨hSt, ⟨b1, b2, b3, b4, b5, b6⟩, hn, -⟩ := id hI
  have k0 : K' q = (1, 10) := by rw [hK q (by omega)]; exact hSt.1
  have frm : ∀ (F' A' : Nat → Nat → Int32) (R' : Nat → Nat → Option Nat), (∀ f c, c < n → c ≠ q → F' f c = F f c) → (∀ f c, c < n → c ≠ q → R' f c = FR' f c) → (∀ c, c < n → A' c = A c) → FrM q (n, K, FI, FL, FR, AI, AL, AR) (n + 16, K', F', L, R', A', M, AR) := fun F' A' R' e1 e2 e3 => ⟨by show n ≤ n + 16; omega, hK, rfl, fun z hz => ⟨fun f => ⟨(e1 f z (by omega) (by omega)).trans (hF f z (by omega) (by omega)), hL' f z (by omega) (by omega), (e2 f z (by omega) (by omega)).trans (hR f z (by omega) (Or.inl (by omega)))⟩, (e3 z (by omega)).trans (hA z (by omega) (by omega) (by omega) (by omega)), hM z (by omega)⟩⟩
  cases eT : pText (gT P) k.toNatClampNeg with
  | inl e =>
    have okf : 1 ≤ e.1 ∧ e.1 ≤ 7 := okF_all (T := gT P) (E := k.toNatClampNeg) e eT
    obtain ⟨x1, x2⟩ := o1 e eT
    have es : sp_wall P k = (-1, (gT P, 0, gW P, 4, e.1, e.2)) := by unfold sp_wall; rw [if_pos hk, eT]
    rw [es] at hQ
    have y : mj_u2 F 641 q 4 659 q = nI e.2 := by rw [mj_u2_1 (by decide)]; exact x2
    simp only [e205_78, e205_79, e205_82, e205_85, e205_86, e205_87, e205_90, e205_91, e205_92, e205_95, e205_98, e205_99, k0, x1, y, true_and]
    refine ⟨fun z => absurd z (nI_nle (by omega) (by omega)), fun _ => hQ _ ?_ (frm _ A FR' (fun f c h1 h2 => by rw [mj_u2_2 h2, mj_u2_2 h2]) (fun _ _ _ _ => rfl) (fun _ _ => rfl))⟩
    show MInv q (gT P, 0, gW P, 4, e.1, e.2) (n + 16) K' FR' (mj_u2 (mj_u2 F 641 q 4) 642 q (nI e.2)) A M
    refine hI.move (P' := (gT P, 0, gW P, 4, e.1, e.2)) (by omega) rfl hK hR (fun f c h1 h2 => by rw [mj_u2_2 h2, mj_u2_2 h2, hF f c h1 h2]) (by rw [mj_u2_1 (by decide), mj_u2_1 (by decide)]; exact h666) (by rw [mj_u2_1 (by decide), mj_u2_1 (by decide)]; exact h667) hA hM ⟨?_, ?_, Nat.zero_le _, ?_, mj_u2_s, ?_⟩
    · rw [hA (q + 3) (by omega) (by omega) (by omega) (by omega)]; exact b1
    · rw [mj_u2_1 (by decide), mj_u2_1 (by decide)]; exact h650
    · rw [mj_u2_1 (by decide), mj_u2_s]; rfl
    · rw [mj_u2_1 (by decide), mj_u2_1 (by decide)]; exact x1
  | inr S =>
    obtain ⟨x1, hRd⟩ := o2 S eT
    have nb := pText_ok eT
    have es : sp_wall P k = (nI (wNB (sW S)), (gT P, 0, some (WSof S), 0, 0, gFa P)) := by unfold sp_wall; rw [if_pos hk, eT]
    rw [es] at hQ
    have hw := hRd.bill nb
    obtain ⟨⟨-, -, hWS, hHS, hqa⟩, hMW, ⟨-, s10, f4, smn⟩, hSh, -, -, hMH, hby, -⟩ := id hRd
    obtain ⟨ku, ⟨g0, ku1⟩, -⟩ := id hHS
    have ka := hWS.1
    obtain ⟨f8, k8⟩ := hWS.2.2.2.2.2.2.2.2.1
    obtain ⟨R2, eR2⟩ : ∃ R2, R2 = mj_u2 (mj_u2 FR' 643 q (some n)) 645 q (some (n + 13)) := ⟨_, rfl⟩
    have ro : ∀ f c, (c ≠ q ∨ (f ≠ 643 ∧ f ≠ 645)) → R2 f c = FR' f c := fun f c h => by
      rw [eR2]
      rcases h with h | h
      · rw [mj_u2_2 h, mj_u2_2 h]
      · rw [mj_u2_1 h.2, mj_u2_1 h.1]
    have r3 : R2 643 q = some n := by rw [eR2, mj_u2_1 (by decide), mj_u2_s]
    have r5 : R2 645 q = some (n + 13) := by rw [eR2, mj_u2_s]
    have gg0 : R2 512 (n + 13) = some (n + 13 + 1) := by rw [ro _ _ (Or.inl (by omega))]; exact g0
    have ff8 : R2 593 n = some (n + 8) := by rw [ro _ _ (Or.inl (by omega))]; exact f8
    have mNB := hMW.1.2.2.2.1
    -- behind the sheets
    have fin : ∀ B : Nat → Nat → Int32, (∀ c, c ≠ n + 14 → B c = A c) → (∀ j, (j < 121 ∨ 124 ≤ j) → B (n + 14) j = A (n + 14) j) → (∀ r, r < 3 → B (n + 14) (121 + r) = nI (sSh S r)) → ∀ x : Value, WP sa (EV sa (d + 2)) 205 Q kk zz 150 [.ref q, .int k, x] [] (n + 16, K', F, L, R2, B, M, AR) := by
      intro B c1 c2 c3 x
      have y : mj_u2 (mj_u2 F 666 q 0) 667 q 0 579 n = nI (wNB (sW S)) := by rw [mj_u2_2 (by omega), mj_u2_2 (by omega)]; exact mNB
      simp only [e205_150, e205_151, e205_152, e205_155, e205_156, e205_157, e205_160, e205_161, e205_162, e205_165, e205_168, k0, r3, rf_some, ka, y, true_and]
      refine ⟨by simp, c_mgood k0 ?_⟩
      simp only [tl_some, e205_171]
      obtain ⟨G, eG⟩ : ∃ G, G = mj_u2 (mj_u2 (mj_u2 (mj_u2 F 666 q 0) 667 q 0) 641 q 0) 642 q (-1) := ⟨_, rfl⟩
      rw [← eG]
      have go : ∀ f c, c ≠ q → G f c = F f c := fun f c h => by rw [eG, mj_u2_2 h, mj_u2_2 h, mj_u2_2 h, mj_u2_2 h]
      have gq : ∀ f, f ≠ 666 → f ≠ 667 → f ≠ 641 → f ≠ 642 → G f q = F f q := fun f h1 h2 h3 h4 => by rw [eG, mj_u2_1 h4, mj_u2_1 h3, mj_u2_1 h2, mj_u2_1 h1]
      refine hQ _ ?_ (frm G B R2 (fun f c _ h => go f c h) (fun f c _ h => ro f c (Or.inl h)) (fun c hc => c1 c (by omega)))
      have hSt' : MStS K' R2 q := hSt.cg (fun j hj => hK _ (by omega)) (fun f hf => by rw [ro f q (Or.inr (by omega))]; exact hR f q (by omega) (Or.inr (by omega)))
      have hMB : MH B M (n + 13) (sW S) (sHs S) (sM S) := by
        obtain ⟨i1, i2, i3⟩ := hMH
        refine ⟨by rw [show n + 13 + 1 = n + 14 from rfl, c2 _ (by omega)]; exact i1, i2, fun i hi => ?_⟩
        rw [show n + 13 + 1 = n + 14 from rfl, c2 _ (by omega), c2 _ (by omega), c2 _ (by omega), c2 _ (by omega)]
        exact i3 i hi
      show MInv q (gT P, 0, some (WSof S), 0, 0, gFa P) (n + 16) K' R2 G B M
      refine ⟨hSt', ⟨?_, ?_, Nat.zero_le _, ?_, ?_, ?_⟩, by show q + 13 < n + 16; omega, n, ⟨⟨hSt'.md, hWS.cg (fun _ _ => rfl) (fun f => ro f _ (Or.inl (by omega))), hw, hMW.fr (fun f => go f _ (by omega)) (fun j j1 j2 => c1 _ (by omega)), hHS.cg (fun _ _ => rfl) (fun f => ro f _ (Or.inl (by omega))), hMB, by omega, by omega⟩, r3, r5⟩, hqa, by show n + 15 < n + 16; omega, fun r hr => ⟨c3 r hr, ?_⟩, ⟨?_, ?_, fun i hi => ⟨(hMH.2.2 i hi).1, hby i hi⟩, fun r hr => ⟨sSh S r, (hSh r hr).2, rfl⟩⟩, ⟨?_, Nat.zero_le _, fun i hi => absurd hi (Nat.not_lt_zero i)⟩, ?_, Nat.zero_le _, fun i hi => absurd hi (Nat.not_lt_zero i)⟩
      · rw [show B (q + 3) = A (q + 3) from c1 _ (by omega), hA (q + 3) (by omega) (by omega) (by omega) (by omega)]; exact b1
      · rw [gq _ (by decide) (by decide) (by decide) (by decide)]; exact h650
      · rw [eG, mj_u2_1 (by decide), mj_u2_s]; rfl
      · rw [eG, mj_u2_s]; rfl
      · rw [gq _ (by decide) (by decide) (by decide) (by decide)]; exact x1
      · rw [show n + 13 + 1 = n + 14 from rfl, c2 _ (by omega), hA0 _ (by omega)]; rfl
      · show wF (sW S) ≤ sM S
        omega
      · show sM S ≤ 30
        omega
      · rw [eG, mj_u2_1 (by decide), mj_u2_1 (by decide), mj_u2_1 (by decide), mj_u2_s]; rfl
      · rw [eG, mj_u2_1 (by decide), mj_u2_1 (by decide), mj_u2_s]; rfl
    have loop : ∀ rr r, r + rr = 3 → ∀ B : Nat → Nat → Int32, (∀ c, c ≠ n + 14 → B c = A c) → (∀ j, (j < 121 ∨ 124 ≤ j) → B (n + 14) j = A (n + 14) j) → (∀ i, i < r → B (n + 14) (121 + i) = nI (sSh S i)) → WP sa (EV sa (d + 2)) 205 Q kk zz 118 [.ref q, .int k, .int (nI r)] [] (n + 16, K', F, L, R2, B, M, AR) := by
      intro rr
      induction rr with
      | zero =>
        intro r hr B c1 c2 c3
        have hr' : r = 3 := by omega
        subst hr'
        rw [e205_118]
        simp only [e205_119, e205_120]
        exact ⟨fun _ => fin B c1 c2 c3 _, fun z => absurd (by decide) z⟩
      | succ rr ih =>
        intro r hr B c1 c2 c3
        have rin : vp_in (nI r) 3 := vp_in_nI (by omega) (by decide)
        have rcl : (nI r).toNatClampNeg = r := nI_clamp (by omega)
        have sin : vp_in (nI (121 + r)) 127 := vp_in_nI (by omega) (by decide)
        have scl : (nI (121 + r)).toNatClampNeg = 121 + r := nI_clamp (by omega)
        have ev : B (n + 8) r = nI (sSh S r) := by rw [c1 _ (by omega)]; exact (hSh r (by omega)).1
        rw [e205_118]
        simp only [e205_119, e205_120, e205_123, e205_124, e205_127, e205_130, e205_132, e205_133, e205_134, e205_135, e205_138, e205_141, e205_142, e205_143, e205_144, e205_147, k0, r5, r3, rf_some, ku, gg0, ku1, ka, ff8, k8, rin, rcl, show (121 : Int32) = nI 121 from rfl, nI_add, sin, scl, ev, nI_1, mj_kl, true_and, true_or]
        refine ⟨fun z => absurd z (nI_ge (show r < 3 by omega) (by decide)), fun _ => ?_⟩
        refine ih (r + 1) (by omega) _ (fun c hc => ?_) (fun j hj => ?_) (fun i hi => ?_)
        · funext j; rw [mj_u2_1 (by omega), c1 c hc]
        · rw [show n + 13 + 1 = n + 14 from rfl, mj_u2_2 (by omega)]; exact c2 j hj
        · rw [show n + 13 + 1 = n + 14 from rfl]
          by_cases z : i = r
          · subst z; rw [mj_u2_s]
          · rw [mj_u2_2 (by omega)]; exact c3 i (by omega)
    have y6 : mj_u2 FR' 643 q (some n) 646 q = some (n + 13) := by rw [mj_u2_1 (by decide)]; exact r6
    simp only [e205_78, e205_79, e205_82, e205_100, e205_101, e205_102, e205_105, e205_108, e205_109, e205_110, e205_113, e205_116, e205_117, k0, x1, r4, y6, rf_some, mj_kl, true_and]
    refine ⟨fun _ => ?_, fun z => absurd (by decide) z⟩
    rw [← eR2]
    exact loop 3 0 (by omega) A (fun _ _ => rfl) (fun _ _ => rfl) (fun i hi => absurd hi (Nat.not_lt_zero i))
theorem RdS.zero {K : Nat → Nat × Nat} (h1 : FR 644 q = some a ∧ FR 646 q = some (a + 13) ∧ MWS K FR a ∧ MHS K FR (a + 13) ∧ q + 13 < a) (h2 : ∀ f, FI f a = 0) (h3 : AI (a + 8) = fun _ => 0) (h4 : AI (a + 14) = fun _ => 0) : RdS K FR FI AI AL q a S_0 := by
  refine ⟨h1, ⟨⟨h2 _, h2 _, h2 _, h2 _, h2 _, h2 _, h2 _, h2 _⟩, fun b hb => absurd hb (Nat.not_lt_zero b), fun b hb => absurd hb (Nat.not_lt_zero b)⟩, ⟨h2 _, Nat.zero_le _, Nat.zero_le _, rfl⟩, fun r hr => ⟨by rw [h3]; rfl, Nat.zero_le _⟩, fun b hb => absurd hb (Nat.not_lt_zero b), ⟨0, ⟨h2 _, rfl⟩, fun b hb => absurd hb (Nat.not_lt_zero b), fun b hb => absurd hb (Nat.not_lt_zero b), fun b hb => absurd hb (Nat.not_lt_zero b), fun b _ hb => absurd hb (Nat.not_lt_zero b), fun b hb => absurd hb (Nat.not_lt_zero b), fun b hb => absurd hb (Nat.not_lt_zero b)⟩, ⟨by rw [show a + 13 + 1 = a + 14 from rfl, h4]; rfl, Nat.zero_le _, fun b hb => absurd hb (Nat.not_lt_zero b)⟩, fun b hb => absurd hb (Nat.not_lt_zero b), Or.inl ⟨⟨⟨rfl, rfl, rfl, rfl, rfl, rfl⟩, Nat.zero_le _, Nat.zero_le _, fun b hb => absurd hb (Nat.not_lt_zero b)⟩, rfl⟩⟩
theorem c_m_wall (a5 : mj_al 205 = (16, 313)) (a7 : mj_al 157 = (12, 132)) (a2 : mj_al 152 = (2, 157)) (hV : InvM q P (n, K, FI, FL, FR, AI, AL, AR)) (hB : BT (gT P)) {k : Int32} (hQ : ∀ μ', InvM q (sp_wall P k).2 μ' → FrM q (n, K, FI, FL, FR, AI, AL, AR) μ' → Q (some (.int (sp_wall P k).1)) μ') : EV sa (d + 19) 205 [.ref q, .int k] (n, K, FI, FL, FR, AI, AL, AR) Q := by
  have hI0 : MInv q P n K FR FI AI AL := hV
  have k0 := hI0.1.1
  refine n205 k0 ?_
  have hI := hI0.th (v := 0)
  obtain ⟨hSt, ⟨b1, b2, b3, b4, b5, b6⟩, hn, -⟩ := id hI
  have hF : FrM q (n, K, FI, FL, FR, AI, AL, AR) (n, K, mj_u2 FI 640 q 0, FL, FR, AI, AL, AR) := FrM.f
  simp only [e205_0, e205_1, e205_2, e205_5, e205_6, e205_9, e205_10, e205_11, e205_14, k0, b2, true_and]
  generalize mj_u2 FI 640 q 0 = F at *
  have no : ¬ (0 ≤ k ∧ k ≤ nI (gZ P)) → WP sa (EV sa (d + 18)) 205 Q 0 0 17 [.ref q, .int k, mj_u] [] (n, K, F, FL, FR, AI, AL, AR) := fun hno => by
    simp only [e205_17, e205_18, e205_19]
    refine ⟨by simp, c_mrefused k0 ?_⟩
    simp only [tl_some, e205_22]
    unfold sp_wall at hQ
    rw [if_neg hno] at hQ
    exact hQ _ (hI.tr (k := 2) (by decide)) (hF.trans (FrM.f.trans FrM.f))
  refine ⟨fun z => no fun y => absurd z (Int32.not_lt.mpr y.1), fun z => ⟨fun z2 => ?_, fun z2 => no fun y => z2 y.2⟩⟩
  have hk : 0 ≤ k ∧ k ≤ nI (gZ P) := ⟨Int32.not_lt.mp z, z2⟩
  obtain ⟨E, hE, rfl⟩ : ∃ E, E ≤ gZ P ∧ k = nI E := by
    obtain ⟨y1, y2⟩ := rng_of (N := gZ P + 1) (by omega) ⟨hk.1, Int32.lt_of_le_of_lt hk.2 (nI_lt (by omega) (by omega))⟩
    exact ⟨k.toNatClampNeg, by omega, y1⟩
  have hcl : (nI E).toNatClampNeg = E := nI_clamp (by omega)
  have nq : q ≠ n := by omega
  -- before the wall is made
  obtain ⟨F0, eF0⟩ : ∃ F0, F0 = mj_u2 (mj_u2 (mj_u2 (mj_u2 F 651 q (nI E)) 650 q 0) 652 q 0) 658 q 0 := ⟨_, rfl⟩
  have uk0 : ∀ v, mj_uk K n v q = (1, 10) := fun v => by rw [uk_o nq]; exact k0
  simp only [e205_23, e205_24, e205_25, e205_28, e205_29, e205_30, e205_33, e205_34, e205_35, e205_38, e205_39, e205_40, e205_43, e205_44, e205_47, e205_48, k0, a5, a7, true_and]
  rw [← eF0]
  refine ⟨by omega, by omega, by simp, Or.inr ⟨by omega, by omega⟩, c_winit a7 uk_s fun K1 R1 A1 M1 w1 w2 w3 w4 w5 => ?_⟩
  have kq1 : K1 q = (1, 10) := by rw [w2 q (by omega)]; exact uk0 _
  simp only [tl_none, e205_51, e205_54, e205_55, e205_58, e205_59, kq1, a2, a5, true_and]
  refine ⟨by omega, by omega, by simp, Or.inr ⟨by omega, by omega⟩, c_hinit (a := n + 13) a2 uk_s fun K2 R2 A2 M2 v1 v2 v3 v4 v5 => ?_⟩
  have kq2 : K2 q = (1, 10) := by rw [v2 q (by omega), uk_o (by omega)]; exact kq1
  simp only [tl_none, e205_62, e205_65, e205_66, e205_67, e205_70, e205_71, kq2, true_and]
  obtain ⟨FF, eFF⟩ : ∃ FF, FF = mj_u2 (mj_zf 0 (mj_zf 0 F0 n) (n + 13)) 653 q 0 := ⟨_, rfl⟩
  obtain ⟨LL, eLL⟩ : ∃ LL, LL = mj_zf 0 (mj_zf 0 FL n) (n + 13) := ⟨_, rfl⟩
  obtain ⟨RR, eRR⟩ : ∃ RR, RR = mj_u2 R2 646 q (some (n + 13)) := ⟨_, rfl⟩
  rw [← eFF, ← eLL, ← eRR]
  have fq : ∀ f, f ≠ 653 → FF f q = F0 f q := fun f h => by rw [eFF, mj_u2_1 h, zf_o (by omega), zf_o (by omega)]
  have fq' : ∀ f, f ≠ 651 → f ≠ 650 → f ≠ 652 → f ≠ 658 → f ≠ 653 → FF f q = F f q := fun f h1 h2 h3 h4 h5 => by rw [fq f h5, eF0, mj_u2_1 h4, mj_u2_1 h3, mj_u2_1 h2, mj_u2_1 h1]
  have q651 : FF 651 q = nI E := by rw [fq _ (by decide), eF0, mj_u2_1 (by decide), mj_u2_1 (by decide), mj_u2_1 (by decide), mj_u2_s]
  have q650 : FF 650 q = 0 := by rw [fq _ (by decide), eF0, mj_u2_1 (by decide), mj_u2_1 (by decide), mj_u2_s]
  have q652 : FF 652 q = nI 0 := by rw [fq _ (by decide), eF0, mj_u2_1 (by decide), mj_u2_s]; rfl
  have q658 : FF 658 q = 0 := by rw [fq _ (by decide), eF0, mj_u2_s]
  have q653 : FF 653 q = 0 := by rw [eFF, mj_u2_s]
  have fo : ∀ f c, c < n → c ≠ q → FF f c = F f c := fun f c h1 h2 => by rw [eFF, mj_u2_2 h2, zf_o (by omega), zf_o (by omega), eF0, mj_u2_2 h2, mj_u2_2 h2, mj_u2_2 h2, mj_u2_2 h2]
  have fn : ∀ f, FF f n = 0 := fun f => by rw [eFF, mj_u2_2 (by omega), zf_o (by omega), zf_s]
  have lo : ∀ f c, c < n → LL f c = FL f c := fun f c h => by rw [eLL, zf_o (by omega), zf_o (by omega)]
  have ro : ∀ f c, c ≠ q → c < n + 13 → RR f c = R1 f c := fun f c h1 h2 => by rw [eRR, mj_u2_2 h1, v3 f c (by omega), zf_o (by omega), mj_u2_2 h1]
  have r4 : RR 644 q = some n := by rw [eRR, mj_u2_1 (by decide), v3 644 q (by omega), zf_o (by omega), mj_u2_s]
  have r6 : RR 646 q = some (n + 13) := by rw [eRR, mj_u2_s]
  have rr : ∀ f c, c < n → (c ≠ q ∨ (f ≠ 644 ∧ f ≠ 646)) → RR f c = FR f c := fun f c h1 h2 => by
    by_cases z : c = q
    · subst z
      obtain ⟨y1, y2⟩ : f ≠ 644 ∧ f ≠ 646 := by
        rcases h2 with y | y
        · exact absurd rfl y
        · exact y
      rw [eRR, mj_u2_1 y2, v3 f c (by omega), zf_o (by omega), mj_u2_1 y1, w3 f c (by omega), zf_o (by omega)]
    · rw [ro f c z (by omega), w3 f c (by omega), zf_o (by omega)]
  have kk1 : ∀ c, c ≤ n + 12 → K2 c = K1 c := fun c h => by rw [v2 c (by omega), uk_o (by omega)]
  have kk : ∀ c, c < n → K2 c = K c := fun c h => by rw [kk1 c (by omega), w2 c (by omega), uk_o (by omega)]
  have aa : ∀ c, c < n → A2 c = AI c := fun c h => by rw [(v4 c (by omega)).1, (w4 c (by omega)).1]
  have mm : ∀ c, c < n → M2 c = AL c := fun c h => by rw [(v4 c (by omega)).2, (w4 c (by omega)).2]
  have hWS : MWS K2 RR n := w1.cg (fun j hj => kk1 _ (by omega)) (fun f => ro f n (by omega) (by omega))
  have hHS : MHS K2 RR (n + 13) := v1.cg (fun _ _ => rfl) (fun f => by rw [eRR, mj_u2_2 (by omega)])
  have hSt2 : MStS K2 RR q := hSt.cg (fun j hj => kk _ (by omega)) (fun f hf => rr f q (by omega) (Or.inr (by omega)))
  have hE2 : MEnv K2 RR A2 q (gT P) E := ⟨hSt2, by rw [aa _ (by omega)]; exact b1, hB, by omega⟩
  have hR2 : RdS K2 RR FF A2 M2 q n S_0 := RdS.zero ⟨r4, r6, hWS, hHS, by omega⟩ fn (by rw [(v4 (n + 8) (by omega)).1]; exact w5) v5
  refine ⟨by simp, c_mgoesOn hSt2 hE2.2.1 hB q651 (by omega) (by rw [q653]; decide) (Nat.zero_le _) q652 fun F3 A3 L3 g1 g2 => ?_⟩
  have z3 := g2.toPZ
  have g3 : TSt F3 A3 L3 q (gT P) E (.inr (rn isSp (gT P) E 0)) := ⟨g1.1.1, g1, by rw [g2.1 658 q (Or.inr (by decide))]; exact q658⟩
  simp only [tl_none, e205_74, e205_75]
  refine ⟨by simp, c_mreadAll (f := E + 1) (hE2.z z3) g3 (hR2.z z3) (rn_le (Nat.zero_le _)) (by omega) fun F4 A4 L4 M4 o1 o2 z4 => ?_⟩
  have z34 := (z3.y.rz (a := n) (AL := M2) (by omega)).trans z4
  simp only [tl_none]
  refine c_wallEnd (n := n) hI hk kk rr r4 r6 (fun f c h1 h2 => ?_) ?_ ?_ ?_ (fun f c h1 h2 => ?_) (fun c h1 h2 h3 h4 => ?_) (fun c h => ?_) (fun j hj => ?_) ?_ ?_ fun μ' i f => hQ μ' i (hF.trans f)
  · rw [z34.1 f c h1 (Or.inl h2)]; exact fo f c h1 h2
  · rw [z34.1 666 q (by omega) (Or.inr (by decide))]; exact fq' _ (by decide) (by decide) (by decide) (by decide) (by decide)
  · rw [z34.1 667 q (by omega) (Or.inr (by decide))]; exact fq' _ (by decide) (by decide) (by decide) (by decide) (by decide)
  · rw [z34.1 650 q (by omega) (Or.inr (by decide))]; exact q650
  · rw [z34.2.1 f c (Or.inl h2)]; exact lo f c h1
  · rw [z34.2.2.1 c h1 h2 h3 h4]; exact aa c h1
  · rw [z34.2.2.2.1 c h]; exact mm c h
  · rw [z34.2.2.2.2 j hj, show n + 14 = n + 13 + 1 from rfl, v5]
  · rw [hcl]; exact o1
  · rw [hcl]; exact o2
end
