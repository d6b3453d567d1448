/-- what doesn't ask whose a bill is -/
def sm3 (g h : Hg) : Prop := gB g = gB h ∧ gX g = gX h ∧ gY g = gY h
theorem covg3 {w : Wl} {g h : Hg} (e : sm3 g h) (c : Nat) : covg w g c = covg w h c := by unfold covg; rw [e.1, e.2.1, e.2.2]
theorem tp3 {w : Wl} {hs hs' : Nat → Hg} {c : Nat} : ∀ {m : Nat}, (∀ k, k < m → sm3 (hs k) (hs' k)) → tp w hs m c = tp w hs' m c
  | 0, _ => rfl
  | m + 1, h => by simp only [tp]; rw [tp3 (fun k hk => h k (by omega)), covg3 (h m (by omega))]
theorem letr3 {w : Wl} {hs hs' : Nat → Hg} {m c : Nat} (h : ∀ k, k < m → sm3 (hs k) (hs' k)) : letr w hs m c = letr w hs' m c := by
  unfold letr
  rw [tp3 h]
  cases e : tp w hs' m c with
  | none => rfl
  | some k =>
    obtain ⟨e1, e2, e3⟩ := h k (tp_lt e).1
    simp only [Option.map_some]
    rw [e1, e2, e3]
theorem reads3 {w : Wl} {hs hs' : Nat → Hg} {m v : Nat} (h : ∀ k, k < m → sm3 (hs k) (hs' k)) : reads w hs m v = reads w hs' m v := by
  unfold reads
  refine ct_congr fun c _ => ?_
  unfold stand
  rw [ex_congr fun i _ => by rw [letr3 h]]
theorem puth3 {hs hs' : Nat → Hg} {m : Nat} {g g' : Hg} (h : ∀ k, k < m → sm3 (hs k) (hs' k)) (e : sm3 g g') : ∀ k, k < m + 1 → sm3 (puth hs m g k) (puth hs' m g' k) := fun k hk => by
  by_cases z : k = m
  · subst z; rw [puth_eq, puth_eq]; exact e
  · rw [puth_lt (by omega), puth_lt (by omega)]; exact h k (by omega)
theorem may3 {w : Wl} {hs hs' : Nat → Hg} {m b c : Nat} (h : ∀ k, k < m → sm3 (hs k) (hs' k)) : mayAt w hs m b c = mayAt w hs' m b c := by
  unfold mayAt may could
  have e1 : lastHangs w hs m = lastHangs w hs' m := ex_congr fun k hk => by rw [(h k hk).1]
  have e2 : lies w hs m b (c % wW w) (c / wW w) (wB w) = lies w hs' m b (c % wW w) (c / wW w) (wB w) := ct_congr fun k hk => ex_congr fun z _ => by rw [covg3 (h k hk), tp3 h]
  have e3 : makes w hs m b (c % wW w) (c / wW w) = makes w hs' m b (c % wW w) (c / wW w) := by
    unfold makes
    rw [ex_congr fun v _ => by rw [reads3 h, reads3 (puth3 h ⟨rfl, rfl, rfl⟩)]]
  rw [e1, e2, e3]
theorem NRw3 {w : Wl} : ∀ (f : Nat) {hs hs' : Nat → Hg} {m : Nat}, (∀ k, k < m → sm3 (hs k) (hs' k)) → NRw w f hs m = NRw w f hs' m
  | 0, _, _, _, _ => rfl
  | f + 1, hs, hs', m, h => by
    simp only [NRw]
    refine sm_congr fun i _ => ?_
    have e : NRw w f (pushM w hs m i (-2)) (m + 1) = NRw w f (pushM w hs' m i (-2)) (m + 1) := NRw3 f (puth3 h ⟨rfl, rfl, rfl⟩)
    unfold mvp
    rw [may3 h, e]
section
variable {sa : Nat → Nat} {d n t h m : Nat} {Q : mj_Q} {K : Nat → Nat × Nat} {FI : Nat → Nat → Int32} {FL : Nat → Nat → Int64} {FR : Nat → Nat → Option Nat} {AI : Nat → Nat → Int32} {AL : Nat → Nat → Int64} {AR : Nat → Nat → Option Nat} {w : Wl} {hs : Nat → Hg}
variable {a u q : Nat} {P : PG}
theorem c_isAllBy (hO : MO K FR FI AI AL q a w hs m) {r : Int32} (hQ : ∀ (AI' : Nat → Nat → Int32), MO K FR FI AI' AL q a w hs m → MX q (a + 13) AI AI' AL AL → Q (some (.int (bI (allP w hs m r)))) (n, K, FI, FL, FR, AI', AL, AR)) : EV sa (d + 3) 260 [.ref q, .int r] (n, K, FI, FL, FR, AI, AL, AR) Q := by
  have k0 := hO.k
  have h32 := hO.c32
  have s1 := hO.1.2.2.2.2.2.2.1
  obtain ⟨-, ⟨f0, k1⟩, -⟩ := hO.1.1
  obtain ⟨ku, ⟨g0, ku1⟩, -⟩ := hO.1.2.2.2.2.1
  refine n260 k0 ?_
  simp only [e260_0, e260_1, e260_2, e260_5, e260_6, e260_9, e260_12, e260_13, e260_15, e260_16, e260_19, e260_22, e260_23, e260_26, e260_27, e260_28, e260_29, e260_32, e260_33, e260_36, e260_39, e260_41, e260_42, e260_45, e260_46, e260_47, e260_48, e260_49, e260_50, e260_53, e260_54, e260_55, e260_58, e260_61, e260_62, k0, hO.2.1, hO.2.2, rf_some, true_and]
  refine ⟨by simp, c_looks hO.1.1 hO.1.2.2.2.2.1 (by omega) hO.mh fun A t x' => ?_⟩
  have hX : MX q (a + 13) AI A AL AL := ⟨fun z z1 _ _ => x' z (by omega), fun j _ => by rw [x' _ (by omega)], fun _ _ => rfl⟩
  have hA := hO.ofX (hO.1.of hX (hO.mh.fr (AL' := AL) (x' _ (by omega)) rfl))
  have fin := hQ A hA hX
  obtain ⟨r1, r2, r3⟩ := hA.mh
  have no : ∀ c, c < wW w * wH w → byR w hs m r c = false → Q (some (.int 0)) (n, K, FI, FL, FR, A, AL, AR) := fun c hc e => by
    have : allP w hs m r = false := by
      unfold allP
      rw [Bool.not_eq_false', ex_true]
      exact ⟨c, hc, by rw [e]; rfl⟩
    rw [this] at fin
    exact fin
  have loop : ∀ rr c, c + rr = wW w * wH w → (∀ j, j < c → byR w hs m r j = true) → WP sa (EV sa (d + 2)) 260 Q 0 0 14 [.ref q, .int r, .int (nI c)] [] (n, K, FI, FL, FR, A, AL, AR) := by
    intro rr
    induction rr with
    | zero =>
      intro c hc hj
      have hc' : c = wW w * wH w := by omega
      subst hc'
      rw [e260_14]
      simp only [e260_0, e260_1, e260_2, e260_5, e260_6, e260_9, e260_12, e260_13, e260_15, e260_16, e260_19, e260_22, e260_23, e260_26, e260_27, e260_28, e260_29, e260_32, e260_33, e260_36, e260_39, e260_41, e260_42, e260_45, e260_46, e260_47, e260_48, e260_49, e260_50, e260_53, e260_54, e260_55, e260_58, e260_61, e260_62]
      refine ⟨by simp, c_mOcells hA ?_⟩
      simp only [tl_some, e260_0, e260_1, e260_2, e260_5, e260_6, e260_9, e260_12, e260_13, e260_15, e260_16, e260_19, e260_22, e260_23, e260_26, e260_27, e260_28, e260_29, e260_32, e260_33, e260_36, e260_39, e260_41, e260_42, e260_45, e260_46, e260_47, e260_48, e260_49, e260_50, e260_53, e260_54, e260_55, e260_58, e260_61, e260_62, or_true, true_and]
      refine ⟨fun _ => ?_, fun z => absurd (nI_le (Nat.le_refl _) (by omega)) z⟩
      have : allP w hs m r = true := by
        unfold allP
        rw [Bool.not_eq_true', ex_false]
        intro k hk
        rw [hj k hk]; rfl
      rw [this] at fin
      exact fin
    | succ rr ih =>
      intro c hc hj
      have hin : vp_in (nI c) 32 := vp_in_nI (by omega) (by decide)
      have hcl : (nI c).toNatClampNeg = c := nI_clamp (by omega)
      have ht := t c (by omega)
      rw [e260_14]
      simp only [e260_0, e260_1, e260_2, e260_5, e260_6, e260_9, e260_12, e260_13, e260_15, e260_16, e260_19, e260_22, e260_23, e260_26, e260_27, e260_28, e260_29, e260_32, e260_33, e260_36, e260_39, e260_41, e260_42, e260_45, e260_46, e260_47, e260_48, e260_49, e260_50, e260_53, e260_54, e260_55, e260_58, e260_62]
      refine ⟨by simp, c_mOcells hA ?_⟩
      simp only [tl_some, e260_0, e260_1, e260_2, e260_5, e260_6, e260_9, e260_12, e260_13, e260_15, e260_16, e260_19, e260_22, e260_23, e260_26, e260_27, e260_28, e260_29, e260_32, e260_33, e260_36, e260_39, e260_41, e260_42, e260_45, e260_46, e260_47, e260_48, e260_49, e260_50, e260_53, e260_54, e260_55, e260_58, e260_62, k0, f0, k1, rf_some, hin, hcl, ht, true_and, true_or]
      refine ⟨fun z => absurd z (nI_ge (by omega) (by omega)), fun _ => ?_⟩
      cases e : tp w hs m c with
      | none =>
        simp only [oI]
        exact ⟨fun _ => no c (by omega) (by rw [byR_tp, e]), fun z => absurd trivial z⟩
      | some k =>
        rw [e] at ht
        simp only [oI] at ht ⊢
        have hk := (tp_lt e).1
        have i4 : vp_in (nI (91 + k)) 127 := vp_in_nI (by omega) (by decide)
        have c4 : (nI (91 + k)).toNatClampNeg = 91 + k := nI_clamp (by omega)
        refine ⟨fun z => ?_, fun _ => ?_⟩
        · have h3 : nI k < 0 := by rw [z]; decide
          exact absurd h3 (nI_pos (by omega))
        · simp only [e260_0, e260_1, e260_2, e260_5, e260_6, e260_9, e260_12, e260_13, e260_15, e260_16, e260_19, e260_22, e260_23, e260_26, e260_27, e260_28, e260_29, e260_32, e260_33, e260_36, e260_39, e260_41, e260_42, e260_45, e260_46, e260_47, e260_48, e260_49, e260_50, e260_53, e260_54, e260_55, e260_58, e260_62, k0, f0, k1, hO.2.2, rf_some, hin, hcl, ht, ku, g0, ku1, show (91 : Int32) = nI 91 from rfl, nI_add, i4, c4, (r3 k hk).2.2.2.2.1, nI_1, mj_kl, true_and, true_or]
          have eb : byR w hs m r c = decide (gR (hs k) = r) := by rw [byR_tp, e]
          refine ⟨fun z => ih (c + 1) (by omega) fun j h => ?_, fun z => no c (by omega) (by rw [eb, decide_eq_false z])⟩
          by_cases y : j = c
          · subst y; rw [eb, decide_eq_true z]
          · exact hj j (by omega)
  simp only [tl_none, e260_0, e260_1, e260_2, e260_5, e260_6, e260_9, e260_12, e260_13, e260_15, e260_16, e260_19, e260_22, e260_23, e260_26, e260_27, e260_28, e260_29, e260_32, e260_33, e260_36, e260_39, e260_41, e260_42, e260_45, e260_46, e260_47, e260_48, e260_49, e260_50, e260_53, e260_54, e260_55, e260_58, e260_61, e260_62, mj_kl]
  have := loop (wW w * wH w) 0 (by omega) (fun j h => by omega)
  simpa [nI_0, mj_u, mj_kl] using this
theorem goal_r {r : Int32} (hr : r ≠ -2) : goalOf w r hs m = allP w hs m r := by unfold goalOf; rw [if_neg hr]
theorem c_goesFor {r : Int32} (hr2 : r ≠ -2) : ∀ (f : Nat) {hs : Nat → Hg} {m : Nat} {FI AI : Nat → Nat → Int32} {AL : Nat → Nat → Int64} {Q : mj_Q} {len c : Nat} {ls : Option Nat}, MO K FR FI AI AL q a w hs m → FI 668 q = nI c → c ≤ 20000 → FI 671 q = oI ls (-2) → oLe ls 4 → len + f ≤ 4 → (∀ (FI' AI' : Nat → Nat → Int32) (AL' : Nat → Nat → Int64) (b : Bool), MO K FR FI' AI' AL' q a w hs m → MQx q (a + 13) FI FI' AI AI' AL AL' → (b = true ↔ c + NRw w f hs m ≤ 20000) → (b = true → FI' 668 q = nI (c + NRw w f hs m) ∧ FI' 671 q = oI (updL ls len f (SRw w (goalOf w r) r f hs m)) (-2)) → Q (some (.int (bI b))) (n, K, FI', FL, FR, AI', AL', AR)) → EV sa (d + f + 10) 261 [.ref q, .int r, .int (nI f), .int (nI len)] (n, K, FI, FL, FR, AI, AL, AR) Q := by
  intro f
  induction f with
  | zero =>
    intro hs m FI AI AL Q len c ls hO h1 h2 h6 h6' h7 hQ
    have k0 := hO.k
    have hn4 := hO.ok.2.2.2.1
    have end0 : ∀ (F A : Nat → Nat → Int32), MO K FR F A AL q a w hs m → MQx q (a + 13) FI F AI A AL AL → F 668 q = nI c → F 671 q = oI (updL ls len 0 (if goalOf w r hs m then 0 else 1)) (-2) → WP sa (EV sa (d + 9)) 261 Q 0 0 30 [.ref q, .int r, .int (nI 0), .int (nI len), mj_u, mj_u, mj_u] [] (n, K, F, FL, FR, A, AL, AR) := by
      intro F A hA hX e1 e2
      have fin := hQ F A AL true hA hX ⟨fun _ => h2, fun _ => rfl⟩ (fun _ => ⟨e1, e2⟩)
      have w4 := hA.1.2.2.2.1.1.2.2.2.1
      simp only [e261_0, e261_1, e261_4, e261_6, e261_9, e261_10, e261_11, e261_14, e261_17, e261_18, e261_19, e261_22, e261_25, e261_26, e261_27, e261_30, e261_31, e261_35, e261_36, e261_39, e261_42, e261_45, e261_46, e261_49, e261_50, e261_54, e261_55, e261_58, e261_61, e261_62, e261_64, e261_66, e261_69, e261_72, e261_73, e261_75, e261_77, e261_80, e261_83, e261_86, e261_87, e261_87i, e261_88, e261_91, e261_92, e261_93, e261_96, e261_97, e261_100, e261_103, e261_106, e261_107, e261_108, e261_109, e261_112, e261_113, e261_116, e261_118, e261_120, e261_121, e261_124, e261_127, e261_128, e261_130, e261_131, e261_134, e261_137, e261_138, e261_139, e261_142, e261_143, e261_144, e261_145, e261_146, e261_147, e261_148, e261_149, e261_150, e261_153, e261_155, e261_156, e261_159, e261_162, e261_164, e261_167, e261_168, e261_169, e261_172, e261_175, e261_178, e261_181, e261_182, mj_kl]
      have : WP sa (EV sa (d + 9)) 261 Q 0 0 33 [.ref q, .int r, .int (nI 0), .int (nI len), .int 0, mj_u, mj_u] [] (n, K, F, FL, FR, A, AL, AR) := by
        rw [e261_33]
        simp only [e261_35, e261_36, e261_39, e261_42, e261_45, e261_46, e261_181, e261_182, k0, hA.2.1, rf_some, hA.1.2.1.1, w4, true_and, or_true]
        exact ⟨fun _ => fin, fun _ => ⟨fun _ => fin, fun z => absurd (by decide) z⟩⟩
      simpa [mj_u, mj_kl] using this
    refine n261 k0 ?_
    have ask : WP sa (EV sa (d + 9)) 261 Q 0 0 17 [.ref q, .int r, .int (nI 0), .int (nI len), mj_u, mj_u, mj_u] [] (n, K, FI, FL, FR, AI, AL, AR) ∧ (minO ls len = ls → WP sa (EV sa (d + 9)) 261 Q 0 0 30 [.ref q, .int r, .int (nI 0), .int (nI len), mj_u, mj_u, mj_u] [] (n, K, FI, FL, FR, AI, AL, AR)) ∨ (minO ls len = ls ∧ WP sa (EV sa (d + 9)) 261 Q 0 0 30 [.ref q, .int r, .int (nI 0), .int (nI len), mj_u, mj_u, mj_u] [] (n, K, FI, FL, FR, AI, AL, AR)) := by
      by_cases y : minO ls len = ls
      · right
        refine ⟨y, end0 FI AI hO MQx.rfl' h1 ?_⟩
        rw [h6]
        congr 1
        unfold updL
        split
        · rw [if_pos (Nat.le_refl 0), Nat.add_zero, y]
        · rw [if_neg (by omega)]
      · left
        refine ⟨?_, fun e => absurd e y⟩
        simp only [e261_17, e261_18, e261_19]
        refine ⟨by simp, c_isAllBy hO fun A g1 g2 => ?_⟩
        rw [← goal_r hr2]
        have gX := g2.toMQ (FI := FI)
        simp only [tl_some, e261_22, e261_25, e261_26, e261_27, bI_eq0, k0, true_and]
        refine ⟨fun z => end0 FI A g1 gX h1 (by rw [h6, z]; rfl), fun z => ?_⟩
        have hq : MQx q (a + 13) FI (mj_u2 FI 671 q (nI len)) AI A AL AL := gX.trans (MQx.fi (by decide))
        refine end0 _ A (g1.ofQ (MQx.fi (by decide)) g1.mh) hq (by rw [mj_u2_1 (by decide)]; exact h1) ?_
        rw [mj_u2_s, ts_nf z]
        have : updL ls len 0 (if true = true then 0 else 1) = some len := by
          unfold updL
          rw [if_pos rfl, if_pos (Nat.le_refl 0), Nat.add_zero]
          cases ls with
          | none => rfl
          | some l => simp only [minO, Option.some.injEq] at y ⊢; omega
        rw [this]; rfl
    simp only [e261_0, e261_1, e261_4, e261_6, e261_9, e261_10, e261_11, e261_14, k0, h6, true_and]
    cases ls with
    | none =>
      rcases ask with ⟨y, -⟩ | ⟨y, -⟩
      · exact ⟨fun _ => y, fun z => absurd rfl z⟩
      · cases y
    | some l =>
      have hl := h6' l rfl
      simp only [oI, nI_leI (show l < 2 ^ 31 by omega) (show len < 2 ^ 31 by omega)]
      refine ⟨fun z => ?_, fun _ => ⟨fun z => ?_, fun z => ?_⟩⟩
      · have h3 : nI l < 0 := by rw [z]; decide
        exact absurd h3 (nI_pos (by omega))
      · have e : minO (some l) len = some l := by simp only [minO]; congr 1; omega
        rcases ask with ⟨-, y⟩ | ⟨-, y⟩
        · exact y e
        · exact y
      · rcases ask with ⟨y, -⟩ | ⟨y, -⟩
        · exact y
        · simp only [minO, Option.some.injEq] at y; omega
  | succ f IHf =>
    intro hs m FI AI AL Q len c ls hO h1 h2 h6 h6' h7 hQ
    have k0 := hO.k
    have h32 := hO.c32
    have hw := hO.ok
    have hn4 := hw.2.2.2.1
    have h30 := hO.mh.2.1
    generalize hfN : (fun i => if mvp w hs m i then 1 + NRw w f (pushM w hs m i (-2)) (m + 1) else 0) = fN
    generalize hfS : (fun i => if mvp w hs m i then 1 + SRw w (goalOf w r) r f (pushM w hs m i r) (m + 1) else f + 2) = fS
    generalize hg0 : (if goalOf w r hs m then 0 else f + 2) = g0
    have eN : NRw w (f + 1) hs m = sm fN (32 * wNB w) := by simp only [NRw, hfN]
    have eS : SRw w (goalOf w r) r (f + 1) hs m = min g0 (mnm fS (f + 2) (32 * wNB w)) := by
      have := mnm_le_top fS (f + 2) (32 * wNB w)
      simp only [SRw, hfS]
      rw [← hg0]
      split <;> omega
    have nN : ∀ i, mvp w hs m i = false → fN i = 0 := fun i hi => by rw [← hfN]; simp only [hi]; rfl
    have nS : ∀ i, mvp w hs m i = false → f + 2 ≤ fS i := fun i hi => by rw [← hfS]; simp only [hi]; exact Nat.le_refl _
    have outer : ∀ rr b, b + rr = wNB w → ∀ (F A : Nat → Nat → Int32) (L : Nat → Nat → Int64), MO K FR F A L q a w hs m → MQx q (a + 13) FI F AI A AL L → c + sm fN (32 * b) ≤ 20000 → F 668 q = nI (c + sm fN (32 * b)) → F 671 q = oI (updL ls len (f + 1) (min g0 (mnm fS (f + 2) (32 * b)))) (-2) → ∀ x5 x6 : Value, WP sa (EV sa (d + f + 10)) 261 Q 0 0 33 [.ref q, .int r, .int (nI (f + 1)), .int (nI len), .int (nI b), x5, x6] [] (n, K, F, FL, FR, A, L, AR) := by
      intro rr
      induction rr with
      | zero =>
        intro b hb F A L hA hX hc e1 e3 x5 x6
        have hb' : b = wNB w := by omega
        subst hb'
        have w4 := hA.1.2.2.2.1.1.2.2.2.1
        rw [e261_33]
        simp only [e261_35, e261_36, e261_39, e261_42, e261_181, e261_182, k0, hA.2.1, rf_some, hA.1.2.1.1, w4, true_and, or_true]
        exact ⟨fun _ => hQ F A L true hA hX ⟨fun _ => by rw [eN]; exact hc, fun _ => rfl⟩ (fun _ => ⟨by rw [eN]; exact e1, by rw [eS]; exact e3⟩), fun z => absurd (nI_le (Nat.le_refl _) (by omega)) z⟩
      | succ rr IH =>
        intro b hb F A L hA hX hc e1 e3 x5 x6
        have inner : ∀ sr y, y + sr = wW w * wH w → ∀ (F A : Nat → Nat → Int32) (L : Nat → Nat → Int64), MO K FR F A L q a w hs m → MQx q (a + 13) FI F AI A AL L → c + sm fN (32 * b + y) ≤ 20000 → F 668 q = nI (c + sm fN (32 * b + y)) → F 671 q = oI (updL ls len (f + 1) (min g0 (mnm fS (f + 2) (32 * b + y)))) (-2) → ∀ x6 : Value, WP sa (EV sa (d + f + 10)) 261 Q 0 0 52 [.ref q, .int r, .int (nI (f + 1)), .int (nI len), .int (nI b), .int (nI y), x6] [] (n, K, F, FL, FR, A, L, AR) := by
          intro sr
          induction sr with
          | zero =>
            intro y hy F A L hA hX hc e1 e3 x6
            have hy' : y = wW w * wH w := by omega
            subst hy'
            have out : ∀ i, 32 * b + wW w * wH w ≤ i → i < 32 * b + wW w * wH w + (32 - wW w * wH w) → mvp w hs m i = false := fun i i1 i2 => mvp_out hw (show b < wNB w by omega) i1 (by omega)
            have e32 : 32 * b + wW w * wH w + (32 - wW w * wH w) = 32 * (b + 1) := by omega
            have s1 := sm_skip (f := fN) (fun i i1 i2 => nN i (out i i1 i2))
            have s3 := mnm_skip (f := fS) (top := f + 2) (fun i i1 i2 => nS i (out i i1 i2))
            rw [e32] at s1 s3
            rw [← s1] at hc e1
            rw [← s3] at e3
            rw [e261_52]
            simp only [e261_0, e261_1, e261_4, e261_6, e261_9, e261_10, e261_11, e261_14, e261_17, e261_18, e261_19, e261_22, e261_25, e261_26, e261_27, e261_30, e261_31, e261_35, e261_36, e261_39, e261_42, e261_45, e261_46, e261_49, e261_50, e261_54, e261_55, e261_58, e261_61, e261_62, e261_64, e261_66, e261_69, e261_72, e261_73, e261_75, e261_77, e261_80, e261_83, e261_86, e261_87, e261_87i, e261_88, e261_91, e261_92, e261_93, e261_96, e261_97, e261_100, e261_103, e261_106, e261_107, e261_108, e261_109, e261_112, e261_113, e261_116, e261_118, e261_120, e261_121, e261_124, e261_127, e261_128, e261_130, e261_131, e261_134, e261_137, e261_138, e261_139, e261_142, e261_143, e261_144, e261_145, e261_146, e261_147, e261_148, e261_149, e261_150, e261_153, e261_155, e261_156, e261_159, e261_162, e261_164, e261_167, e261_168, e261_169, e261_172, e261_175, e261_178, e261_181, e261_182]
            refine ⟨by simp, c_mOcells hA ?_⟩
            simp only [tl_some, e261_0, e261_1, e261_4, e261_6, e261_9, e261_10, e261_11, e261_14, e261_17, e261_18, e261_19, e261_22, e261_25, e261_26, e261_27, e261_30, e261_31, e261_35, e261_36, e261_39, e261_42, e261_45, e261_46, e261_49, e261_50, e261_54, e261_55, e261_58, e261_61, e261_62, e261_64, e261_66, e261_69, e261_72, e261_73, e261_75, e261_77, e261_80, e261_83, e261_86, e261_87, e261_87i, e261_88, e261_91, e261_92, e261_93, e261_96, e261_97, e261_100, e261_103, e261_106, e261_107, e261_108, e261_109, e261_112, e261_113, e261_116, e261_118, e261_120, e261_121, e261_124, e261_127, e261_128, e261_130, e261_131, e261_134, e261_137, e261_138, e261_139, e261_142, e261_143, e261_144, e261_145, e261_146, e261_147, e261_148, e261_149, e261_150, e261_153, e261_155, e261_156, e261_159, e261_162, e261_164, e261_167, e261_168, e261_169, e261_172, e261_175, e261_178, e261_181, e261_182, nI_1, mj_kl]
            exact ⟨fun _ => IH (b + 1) (by omega) F A L hA hX hc e1 e3 _ _, fun z => absurd (nI_le (Nat.le_refl _) (by omega)) z⟩
          | succ sr ih =>
            intro y hy F A L hA hX hc e1 e3 x6
            have nx := ih (y + 1) (by omega)
            have i1 : 32 * b + (y + 1) = 32 * b + y + 1 := by omega
            rw [i1, show sm fN (32 * b + y + 1) = sm fN (32 * b + y) + fN (32 * b + y) from rfl, show mnm fS (f + 2) (32 * b + y + 1) = min (mnm fS (f + 2) (32 * b + y)) (fS (32 * b + y)) from rfl] at nx
            have hmt := mnm_le_top fS (f + 2) (32 * b + y)
            have skip : mayAt w hs m b y = false → ∀ (F A : Nat → Nat → Int32) (L : Nat → Nat → Int64), MO K FR F A L q a w hs m → MQx q (a + 13) FI F AI A AL L → F 668 q = nI (c + sm fN (32 * b + y)) → F 671 q = oI (updL ls len (f + 1) (min g0 (mnm fS (f + 2) (32 * b + y)))) (-2) → WP sa (EV sa (d + f + 10)) 261 Q 0 0 52 [.ref q, .int r, .int (nI (f + 1)), .int (nI len), .int (nI b), .int (nI (y + 1)), x6] [] (n, K, F, FL, FR, A, L, AR) := fun hno F A L hA hX e1 e3 => by
              have hmv : mvp w hs m (32 * b + y) = false := by rw [mvp_at (by omega)]; exact hno
              have q1 := nN _ hmv
              have q3 := nS _ hmv
              exact nx F A L hA hX (by omega) (by rw [q1]; exact e1) (by rw [show min (mnm fS (f + 2) (32 * b + y)) (fS (32 * b + y)) = mnm fS (f + 2) (32 * b + y) by omega]; exact e3) x6
            have w1 := hA.1.2.2.2.1.1.1
            have hW := hw.1
            have nW : ¬ nI (wW w) = 0 := nI_ne0 (by omega) (by omega)
            rw [e261_52]
            simp only [e261_0, e261_1, e261_4, e261_6, e261_9, e261_10, e261_11, e261_14, e261_17, e261_18, e261_19, e261_22, e261_25, e261_26, e261_27, e261_30, e261_31, e261_35, e261_36, e261_39, e261_42, e261_45, e261_46, e261_49, e261_50, e261_54, e261_55, e261_58, e261_61, e261_62, e261_64, e261_66, e261_69, e261_72, e261_73, e261_75, e261_77, e261_80, e261_83, e261_86, e261_87, e261_87i, e261_88, e261_91, e261_92, e261_93, e261_96, e261_97, e261_100, e261_103, e261_106, e261_107, e261_108, e261_109, e261_112, e261_113, e261_116, e261_118, e261_120, e261_121, e261_124, e261_127, e261_128, e261_130, e261_131, e261_134, e261_137, e261_138, e261_139, e261_142, e261_143, e261_144, e261_145, e261_146, e261_147, e261_148, e261_149, e261_150, e261_153, e261_155, e261_156, e261_159, e261_162, e261_164, e261_167, e261_168, e261_169, e261_172, e261_178, e261_181, e261_182]
            refine ⟨by simp, c_mOcells hA ?_⟩
            simp only [tl_some, e261_0, e261_1, e261_4, e261_6, e261_9, e261_10, e261_11, e261_14, e261_17, e261_18, e261_19, e261_22, e261_25, e261_26, e261_27, e261_30, e261_31, e261_35, e261_36, e261_39, e261_42, e261_45, e261_46, e261_49, e261_50, e261_54, e261_55, e261_58, e261_61, e261_62, e261_64, e261_66, e261_69, e261_72, e261_73, e261_75, e261_77, e261_80, e261_83, e261_86, e261_87, e261_87i, e261_88, e261_91, e261_92, e261_93, e261_96, e261_97, e261_100, e261_103, e261_106, e261_107, e261_108, e261_109, e261_112, e261_113, e261_116, e261_118, e261_120, e261_121, e261_124, e261_127, e261_128, e261_130, e261_131, e261_134, e261_137, e261_138, e261_139, e261_142, e261_143, e261_144, e261_145, e261_146, e261_147, e261_148, e261_149, e261_150, e261_153, e261_155, e261_156, e261_159, e261_162, e261_164, e261_167, e261_168, e261_169, e261_172, e261_178, e261_181, e261_182]
            refine ⟨fun z => absurd z (nI_ge (by omega) (by omega)), fun _ => ⟨by simp, c_misOnAt hA (by omega) (by omega) ?_⟩⟩
            simp only [tl_some, e261_0, e261_1, e261_4, e261_6, e261_9, e261_10, e261_11, e261_14, e261_17, e261_18, e261_19, e261_22, e261_25, e261_26, e261_27, e261_30, e261_31, e261_35, e261_36, e261_39, e261_42, e261_45, e261_46, e261_49, e261_50, e261_54, e261_55, e261_58, e261_61, e261_62, e261_64, e261_66, e261_69, e261_72, e261_73, e261_75, e261_77, e261_80, e261_83, e261_86, e261_87, e261_87i, e261_88, e261_91, e261_92, e261_93, e261_96, e261_97, e261_100, e261_103, e261_106, e261_107, e261_108, e261_109, e261_112, e261_113, e261_116, e261_118, e261_120, e261_121, e261_124, e261_127, e261_128, e261_130, e261_131, e261_134, e261_137, e261_138, e261_139, e261_142, e261_143, e261_144, e261_145, e261_146, e261_147, e261_148, e261_149, e261_150, e261_153, e261_155, e261_156, e261_159, e261_162, e261_164, e261_167, e261_168, e261_169, e261_172, e261_178, e261_181, e261_182, bI_eq0, nI_1, mj_kl]
            refine ⟨fun z => skip (mayAt_no z) F A L hA hX e1 e3, fun z => ⟨by simp, ?_⟩⟩
            have go7 := fun QQ => c_mmayAt (sa := sa) (d := d + f + 3) (n := n) (FL := FL) (AR := AR) (Q := QQ) hA (show b < wNB w by omega) (show y < 32 by omega) (ts_nf z)
            refine go7 _ fun A3 L3 g5 g6 => ?_
            simp only [tl_some, e261_0, e261_1, e261_4, e261_6, e261_9, e261_10, e261_11, e261_14, e261_17, e261_18, e261_19, e261_22, e261_25, e261_26, e261_27, e261_30, e261_31, e261_35, e261_36, e261_39, e261_42, e261_45, e261_46, e261_49, e261_50, e261_54, e261_55, e261_58, e261_61, e261_62, e261_64, e261_66, e261_69, e261_72, e261_73, e261_75, e261_77, e261_80, e261_83, e261_86, e261_87, e261_87i, e261_88, e261_91, e261_92, e261_93, e261_96, e261_97, e261_100, e261_103, e261_106, e261_107, e261_109, e261_112, e261_113, e261_116, e261_118, e261_120, e261_121, e261_124, e261_127, e261_128, e261_130, e261_131, e261_134, e261_137, e261_138, e261_139, e261_142, e261_143, e261_144, e261_145, e261_146, e261_147, e261_148, e261_149, e261_150, e261_153, e261_155, e261_156, e261_159, e261_162, e261_164, e261_167, e261_168, e261_169, e261_172, e261_178, e261_181, e261_182, bI_eq0, nI_1, mj_kl]
            refine ⟨fun z2 => ?_, fun z2 => skip (by simpa using z2) F A3 L3 g5 (hX.trans g6.toMQ) e1 e3⟩
            have hmy := ts_nf z2
            have hmv : mvp w hs m (32 * b + y) = true := by rw [mvp_at (by omega)]; exact hmy
            have vN : fN (32 * b + y) = 1 + NRw w f (puth hs m (b, y % wW w, y / wW w, r)) (m + 1) := by
              rw [← hfN]
              simp only [hmv, if_true, pushM_at (show y < 32 by omega)]
              exact congrArg (1 + ·) (NRw3 f (puth3 (fun k _ => ⟨rfl, rfl, rfl⟩) ⟨rfl, rfl, rfl⟩))
            have vS : fS (32 * b + y) = 1 + SRw w (goalOf w r) r f (puth hs m (b, y % wW w, y / wW w, r)) (m + 1) := by rw [← hfS]; simp only [hmv, if_true, pushM_at (show y < 32 by omega)]
            have hmono := sm_mono fN (show 32 * b + y + 1 ≤ 32 * wNB w by omega)
            rw [show sm fN (32 * b + y + 1) = sm fN (32 * b + y) + fN (32 * b + y) from rfl] at hmono
            have bad : ∀ (F A : Nat → Nat → Int32) (L : Nat → Nat → Int64), MO K FR F A L q a w hs m → MQx q (a + 13) FI F AI A AL L → ¬ c + sm fN (32 * b + y) + fN (32 * b + y) ≤ 20000 → Q (some (.int 0)) (n, K, F, FL, FR, A, L, AR) := fun F A L hA hX hn => hQ F A L false hA hX ⟨fun e => (by cases e), fun e => (by rw [eN] at e; omega)⟩ (fun e => (by cases e))
            simp only [k0, e1, nI_1, mj_u2_s, show (20000 : Int32) = nI 20000 from rfl, nI_leI (show c + sm fN (32 * b + y) + 1 < 2 ^ 31 by omega) (show 20000 < 2 ^ 31 by decide), true_and, true_or]
            have hX3 := hX.trans (g6.toMQ (FI := F))
            have hF1 : MQx q (a + 13) F (mj_u2 F 668 q (nI (c + sm fN (32 * b + y) + 1))) A3 A3 L3 L3 := MQx.fi (by decide)
            refine ⟨fun z3 => ?_, fun z3 => bad _ A3 L3 (g5.ofQ hF1 g5.mh) (hX3.trans hF1) (by omega)⟩
            generalize hG : mj_u2 F 668 q (nI (c + sm fN (32 * b + y) + 1)) = G at hF1 ⊢
            have G8 : G 668 q = nI (c + sm fN (32 * b + y) + 1) := by rw [← hG]; exact mj_u2_s
            have G0 : G 671 q = oI (updL ls len (f + 1) (min g0 (mnm fS (f + 2) (32 * b + y)))) (-2) := by rw [← hG, mj_u2_1 (by decide)]; exact e3
            have hX4 := hX3.trans hF1
            have g5' := g5.ofQ hF1 g5.mh
            have w1' := g5'.1.2.2.2.1.1.1
            simp only [e261_0, e261_1, e261_4, e261_6, e261_9, e261_10, e261_11, e261_14, e261_17, e261_18, e261_19, e261_22, e261_25, e261_26, e261_27, e261_30, e261_31, e261_35, e261_36, e261_39, e261_42, e261_45, e261_46, e261_49, e261_50, e261_54, e261_55, e261_58, e261_61, e261_62, e261_64, e261_66, e261_69, e261_72, e261_73, e261_75, e261_77, e261_80, e261_83, e261_86, e261_87, e261_87i, e261_88, e261_91, e261_92, e261_93, e261_96, e261_97, e261_100, e261_103, e261_106, e261_107, e261_108, e261_109, e261_112, e261_113, e261_116, e261_118, e261_120, e261_121, e261_124, e261_127, e261_128, e261_130, e261_131, e261_134, e261_137, e261_138, e261_139, e261_142, e261_143, e261_144, e261_145, e261_146, e261_147, e261_148, e261_149, e261_150, e261_153, e261_155, e261_156, e261_159, e261_162, e261_164, e261_167, e261_168, e261_169, e261_172, e261_178, e261_181, e261_182, k0, g5'.2.1, g5'.2.2, rf_some, g5'.1.2.1.1, w1', nW, pk_div (show y < 2 ^ 31 by omega) (show 0 < wW w by omega) (show wW w < 2 ^ 31 by omega), rem_m1, rem_m2, not_false_eq_true, true_and]
            refine ⟨by simp, ?_⟩
            have goP := fun QQ => c_mpastedR (sa := sa) (d := d + f + 8) (n := n) (FL := FL) (AR := AR) (Q := QQ) (r := r) g5' (show b < wNB w by omega) hmy
            refine goP _ fun A4 L4 g7 g8 => ?_
            simp only [tl_none, e261_0, e261_1, e261_4, e261_6, e261_9, e261_10, e261_11, e261_14, e261_17, e261_18, e261_19, e261_22, e261_25, e261_26, e261_27, e261_30, e261_31, e261_35, e261_36, e261_39, e261_42, e261_45, e261_46, e261_49, e261_50, e261_54, e261_55, e261_58, e261_61, e261_62, e261_64, e261_66, e261_69, e261_72, e261_73, e261_75, e261_77, e261_80, e261_83, e261_86, e261_87, e261_87i, e261_88, e261_91, e261_92, e261_93, e261_96, e261_97, e261_100, e261_103, e261_106, e261_107, e261_108, e261_109, e261_112, e261_113, e261_116, e261_118, e261_120, e261_121, e261_124, e261_127, e261_128, e261_130, e261_131, e261_134, e261_137, e261_138, e261_139, e261_142, e261_143, e261_144, e261_145, e261_146, e261_147, e261_148, e261_149, e261_150, e261_153, e261_155, e261_156, e261_159, e261_162, e261_164, e261_167, e261_168, e261_169, e261_172, e261_178, e261_181, e261_182, show nI (f + 1) - 1 = nI f from nI_pred f, nI_1]
            refine ⟨by simp, ?_⟩
            refine IHf (c := c + sm fN (32 * b + y) + 1) (len := len + 1) (ls := updL ls len (f + 1) (min g0 (mnm fS (f + 2) (32 * b + y)))) g7 G8 z3 G0 (updL_le h6' (by omega)) (by omega) fun F5 A5 L5 bb g9 g10 g11 g12 => ?_
            have hX5 := (hX4.trans g8.toMQ).trans g10
            obtain ⟨o1, o2⟩ := g9.off
            have hOn := o1.congr (hs' := hs) (fun k hk => puth_lt hk)
            have hXn := hX5.trans (o2.toMQ (FI := F5))
            simp only [tl_some, e261_0, e261_1, e261_4, e261_6, e261_9, e261_10, e261_11, e261_14, e261_17, e261_18, e261_19, e261_22, e261_25, e261_26, e261_27, e261_30, e261_31, e261_35, e261_36, e261_39, e261_42, e261_45, e261_46, e261_49, e261_50, e261_54, e261_55, e261_58, e261_61, e261_62, e261_64, e261_66, e261_69, e261_72, e261_73, e261_75, e261_77, e261_80, e261_83, e261_86, e261_87, e261_87i, e261_88, e261_91, e261_92, e261_93, e261_96, e261_97, e261_100, e261_103, e261_106, e261_107, e261_108, e261_109, e261_112, e261_113, e261_116, e261_118, e261_120, e261_121, e261_124, e261_127, e261_128, e261_130, e261_131, e261_134, e261_137, e261_138, e261_139, e261_142, e261_143, e261_144, e261_145, e261_146, e261_147, e261_148, e261_149, e261_150, e261_153, e261_155, e261_156, e261_159, e261_162, e261_164, e261_167, e261_168, e261_169, e261_172, e261_178, e261_181, e261_182, k0, g9.2.2, rf_some, mj_kl, true_and]
            refine ⟨by simp, ?_⟩
            refine c_takesOff (d := d + f + 9) g9.1.2.2.2.2.1 ?_
            simp only [tl_none, e261_0, e261_1, e261_4, e261_6, e261_9, e261_10, e261_11, e261_14, e261_17, e261_18, e261_19, e261_22, e261_25, e261_26, e261_27, e261_30, e261_31, e261_35, e261_36, e261_39, e261_42, e261_45, e261_46, e261_49, e261_50, e261_54, e261_55, e261_58, e261_61, e261_62, e261_64, e261_66, e261_69, e261_72, e261_73, e261_75, e261_77, e261_80, e261_83, e261_86, e261_87, e261_87i, e261_88, e261_91, e261_92, e261_93, e261_96, e261_97, e261_100, e261_103, e261_106, e261_107, e261_108, e261_109, e261_112, e261_113, e261_116, e261_118, e261_120, e261_121, e261_124, e261_127, e261_128, e261_130, e261_131, e261_134, e261_137, e261_138, e261_139, e261_142, e261_143, e261_144, e261_145, e261_146, e261_147, e261_148, e261_149, e261_150, e261_153, e261_155, e261_156, e261_159, e261_162, e261_164, e261_167, e261_168, e261_169, e261_172, e261_178, e261_181, e261_182, bI_eq0, nI_1, mj_kl, true_or, true_and]
            refine ⟨fun y1 => ?_, fun y1 => bad F5 _ L5 hOn hXn ?_⟩
            · have y2 := ts_nf y1
              obtain ⟨r1, r3⟩ := g12 y2
              have r0 := g11.mp y2
              exact nx F5 _ L5 hOn hXn (by rw [vN]; omega) (by rw [r1, vN]; congr 1; omega) (by rw [r3, updL_shift, updL_min, vS]; congr 2; omega) (.int (bI bb))
            · have y2 : bb = false := by simpa using y1
              intro e
              rw [vN] at e
              have := g11.mpr (by omega)
              rw [y2] at this
              cases this
        have w4 := hA.1.2.2.2.1.1.2.2.2.1
        rw [e261_33]
        simp only [e261_35, e261_36, e261_39, e261_42, e261_45, e261_46, e261_49, e261_50, k0, hA.2.1, rf_some, hA.1.2.1.1, w4, true_and, mj_kl]
        refine ⟨fun z => absurd z (nI_ge (by omega) (by omega)), fun _ => ⟨fun z => absurd z (nI_nle (by omega) (by omega)), fun _ => ?_⟩⟩
        have := inner (wW w * wH w) 0 (by omega) F A L hA hX hc e1 e3 x6
        simpa [nI_0, mj_kl] using this
    have end0 : ∀ (F A : Nat → Nat → Int32), MO K FR F A AL q a w hs m → MQx q (a + 13) FI F AI A AL AL → F 668 q = nI c → F 671 q = oI (updL ls len (f + 1) g0) (-2) → WP sa (EV sa (d + f + 10)) 261 Q 0 0 30 [.ref q, .int r, .int (nI (f + 1)), .int (nI len), mj_u, mj_u, mj_u] [] (n, K, F, FL, FR, A, AL, AR) := by
      intro F A hA hX e1 e2
      have hg2 : g0 ≤ f + 2 := by rw [← hg0]; split <;> omega
      have := outer (wNB w) 0 (by omega) F A AL hA hX (by simp only [Nat.mul_zero, sm]; omega) (by simpa [sm] using e1) (by simp only [Nat.mul_zero, mnm]; rw [show min g0 (f + 2) = g0 by omega]; exact e2) mj_u mj_u
      simp only [e261_0, e261_1, e261_4, e261_6, e261_9, e261_10, e261_11, e261_14, e261_17, e261_18, e261_19, e261_22, e261_25, e261_26, e261_27, e261_30, e261_31, e261_35, e261_36, e261_39, e261_42, e261_45, e261_46, e261_49, e261_50, e261_54, e261_55, e261_58, e261_61, e261_62, e261_64, e261_66, e261_69, e261_72, e261_73, e261_75, e261_77, e261_80, e261_83, e261_86, e261_87, e261_87i, e261_88, e261_91, e261_92, e261_93, e261_96, e261_97, e261_100, e261_103, e261_106, e261_107, e261_108, e261_109, e261_112, e261_113, e261_116, e261_118, e261_120, e261_121, e261_124, e261_127, e261_128, e261_130, e261_131, e261_134, e261_137, e261_138, e261_139, e261_142, e261_143, e261_144, e261_145, e261_146, e261_147, e261_148, e261_149, e261_150, e261_153, e261_155, e261_156, e261_159, e261_162, e261_164, e261_167, e261_168, e261_169, e261_172, e261_175, e261_178, e261_181, e261_182, mj_kl]
      simpa [nI_0, mj_u, mj_kl] using this
    rw [show d + (f + 1) + 10 = (d + f + 10) + 1 by omega]
    refine n261 k0 ?_
    have ask : WP sa (EV sa (d + f + 10)) 261 Q 0 0 17 [.ref q, .int r, .int (nI (f + 1)), .int (nI len), mj_u, mj_u, mj_u] [] (n, K, FI, FL, FR, AI, AL, AR) ∧ (minO ls len = ls → WP sa (EV sa (d + f + 10)) 261 Q 0 0 30 [.ref q, .int r, .int (nI (f + 1)), .int (nI len), mj_u, mj_u, mj_u] [] (n, K, FI, FL, FR, AI, AL, AR)) ∨ (minO ls len = ls ∧ WP sa (EV sa (d + f + 10)) 261 Q 0 0 30 [.ref q, .int r, .int (nI (f + 1)), .int (nI len), mj_u, mj_u, mj_u] [] (n, K, FI, FL, FR, AI, AL, AR)) := by
      by_cases y : minO ls len = ls
      · right
        refine ⟨y, end0 FI AI hO MQx.rfl' h1 ?_⟩
        rw [h6]
        congr 1
        rw [← hg0]
        unfold updL
        split
        · rw [if_pos (by omega), Nat.add_zero, y]
        · rw [if_neg (by omega)]
      · left
        refine ⟨?_, fun e => absurd e y⟩
        simp only [e261_17, e261_18, e261_19]
        refine ⟨by simp, ?_⟩
        refine c_isAllBy (d := d + f + 7) hO fun A g1 g2 => ?_
        rw [← goal_r hr2]
        have gX := g2.toMQ (FI := FI)
        simp only [tl_some, e261_22, e261_25, e261_26, e261_27, bI_eq0, k0, true_and]
        refine ⟨fun z => end0 FI A g1 gX h1 (by rw [h6, ← hg0, z]; unfold updL; rw [if_neg (by simp)]), fun z => ?_⟩
        have hq : MQx q (a + 13) FI (mj_u2 FI 671 q (nI len)) AI A AL AL := gX.trans (MQx.fi (by decide))
        refine end0 _ A (g1.ofQ (MQx.fi (by decide)) g1.mh) hq (by rw [mj_u2_1 (by decide)]; exact h1) ?_
        rw [mj_u2_s, ← hg0, ts_nf z]
        have : updL ls len (f + 1) (if true = true then 0 else f + 2) = some len := by
          unfold updL
          rw [if_pos rfl, if_pos (by omega), Nat.add_zero]
          cases ls with
          | none => rfl
          | some l => simp only [minO, Option.some.injEq] at y ⊢; omega
        rw [this]; rfl
    simp only [e261_0, e261_1, e261_4, e261_6, e261_9, e261_10, e261_11, e261_14, k0, h6, true_and]
    cases ls with
    | none =>
      rcases ask with ⟨y, -⟩ | ⟨y, -⟩
      · exact ⟨fun _ => y, fun z => absurd rfl z⟩
      · cases y
    | some l =>
      have hl := h6' l rfl
      simp only [oI, nI_leI (show l < 2 ^ 31 by omega) (show len < 2 ^ 31 by omega)]
      refine ⟨fun z => ?_, fun _ => ⟨fun z => ?_, fun z => ?_⟩⟩
      · have h3 : nI l < 0 := by rw [z]; decide
        exact absurd h3 (nI_pos (by omega))
      · have e : minO (some l) len = some l := by simp only [minO]; congr 1; omega
        rcases ask with ⟨-, y⟩ | ⟨-, y⟩
        · exact y e
        · exact y
      · rcases ask with ⟨y, -⟩ | ⟨y, -⟩
        · exact y
        · simp only [minO, Option.some.injEq] at y; omega
end
