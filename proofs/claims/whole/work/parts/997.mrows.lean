/-- the shortest so far -/
def minO (o : Option Nat) (v : Nat) : Option Nat := match o with
  | none => some v
  | some l => some (min l v)
def updL (o : Option Nat) (len f s : Nat) : Option Nat := if s ≤ f then minO o (len + s) else o
theorem updL_min {o : Option Nat} {len f s t : Nat} : updL (updL o len f s) len f t = updL o len f (min s t) := by
  unfold updL
  by_cases h1 : s ≤ f
  · by_cases h2 : t ≤ f
    · rw [if_pos h1, if_pos h2, if_pos (by omega)]
      cases o with
      | none => simp only [minO]; congr 1; omega
      | some l => simp only [minO]; congr 1; omega
    · rw [if_pos h1, if_neg h2, if_pos (by omega), show min s t = s by omega]
  · by_cases h2 : t ≤ f
    · rw [if_neg h1, if_pos h2, if_pos (by omega), show min s t = t by omega]
    · rw [if_neg h1, if_neg h2, if_neg (by omega)]
theorem updL_shift {o : Option Nat} {len f s : Nat} : updL o (len + 1) f s = updL o len (f + 1) (1 + s) := by
  unfold updL
  by_cases h : s ≤ f
  · rw [if_pos h, if_pos (by omega), show len + 1 + s = len + (1 + s) by omega]
  · rw [if_neg h, if_neg (by omega)]
def oLe (o : Option Nat) (c : Nat) : Prop := ∀ l, o = some l → l ≤ c
theorem updL_le {o : Option Nat} {len f s c : Nat} (h : oLe o c) (h2 : len + f ≤ c) : oLe (updL o len f s) c := by
  unfold updL
  split
  · intro l hl
    cases o with
    | none => simp only [minO, Option.some.injEq] at hl; omega
    | some k => have := h k rfl; simp only [minO, Option.some.injEq] at hl; omega
  · exact h
theorem full_goal {w : Wl} {hs : Nat → Hg} {m : Nat} : goalOf w (-2) hs m = isFullP w hs m := by unfold goalOf; rw [if_pos rfl]
section
variable {sa : Nat → Nat} {d n t h m : Nat} {Q : mj_Q} {K : Nat → Nat × Nat} {FI : Nat → Nat → Int32} {FL : Nat → Nat → Int64} {FR : Nat → Nat → Option Nat} {AI : Nat → Nat → Int32} {AL : Nat → Nat → Int64} {AR : Nat → Nat → Option Nat} {w : Wl} {hs : Nat → Hg}
variable {a u q : Nat} {P : PG}
theorem c_goes : ∀ (f : Nat) {hs : Nat → Hg} {m : Nat} {FI AI : Nat → Nat → Int32} {AL : Nat → Nat → Int64} {Q : mj_Q} {len c lg : Nat} {ls : Option Nat}, MO K FR FI AI AL q a w hs m → FI 668 q = nI c → c ≤ 20000 → FI 669 q = nI lg → len ≤ lg → lg ≤ 4 → FI 670 q = oI ls (-2) → oLe ls 4 → len + f ≤ 4 → (∀ (FI' AI' : Nat → Nat → Int32) (AL' : Nat → Nat → Int64) (b : Bool), MO K FR FI' AI' AL' q a w hs m → MQx q (a + 13) FI FI' AI AI' AL AL' → (b = true ↔ c + NRw w f hs m ≤ 20000) → (b = true → FI' 668 q = nI (c + NRw w f hs m) ∧ FI' 669 q = nI (max lg (len + LRw w f hs m)) ∧ FI' 670 q = oI (updL ls len f (SRw w (goalOf w (-2)) (-2) f hs m)) (-2)) → Q (some (.int (bI b))) (n, K, FI', FL, FR, AI', AL', AR)) → EV sa (d + f + 10) 252 [.ref q, .int (nI f), .int (nI len)] (n, K, FI, FL, FR, AI, AL, AR) Q := by
  intro f
  induction f with
  | zero =>
    intro hs m FI AI AL Q len c lg ls hO h1 h2 h3 h4 h5 h6 h6' h7 hQ
    have k0 := hO.k
    have hn4 := hO.ok.2.2.2.1
    have w4 := hO.1.2.2.2.1.1.2.2.2.1
    have end0 : WP sa (EV sa (d + 9)) 252 Q 0 0 152 [.ref q, .int (nI 0), .int (nI len), .int 0, .int 0, mj_u, mj_u] [] (n, K, FI, FL, FR, AI, AL, AR) := by
      simp only [e252_0, e252_1, e252_2, e252_3, e252_7, e252_8, e252_11, e252_14, e252_17, e252_18, e252_21, e252_22, e252_26, e252_27, e252_30, e252_33, e252_34, e252_36, e252_38, e252_41, e252_44, e252_45, e252_47, e252_49, e252_52, e252_55, e252_58, e252_59, e252_60, e252_61, e252_61i, e252_62, e252_65, e252_66, e252_67, e252_70, e252_71, e252_74, e252_77, e252_80, e252_81, e252_82, e252_83, e252_84, e252_85, e252_86, e252_87, e252_90, e252_93, e252_94, e252_95, e252_96, e252_99, e252_100, e252_103, e252_106, e252_107, e252_109, e252_111, e252_114, e252_115, e252_116, e252_117, e252_118, e252_119, e252_120, e252_121, e252_124, e252_126, e252_127, e252_130, e252_133, e252_135, e252_138, e252_139, e252_140, e252_143, e252_146, e252_149, e252_152, e252_153, e252_156, e252_157, e252_160, e252_161, e252_164, e252_167, e252_168, e252_171, e252_173, e252_176, e252_177, e252_178, e252_181, e252_184, e252_185, e252_186, e252_189, e252_190]
      refine ⟨fun z => absurd trivial z, fun _ => ⟨fun z => absurd z (by decide), fun _ => ⟨by simp, c_misFull hO fun A L g1 g2 => ?_⟩⟩⟩
      have gX := g2.toMQ (FI := FI)
      simp only [tl_some, e252_0, e252_1, e252_2, e252_3, e252_7, e252_8, e252_11, e252_14, e252_17, e252_18, e252_21, e252_22, e252_26, e252_27, e252_30, e252_33, e252_34, e252_36, e252_38, e252_41, e252_44, e252_45, e252_47, e252_49, e252_52, e252_55, e252_58, e252_59, e252_60, e252_61, e252_61i, e252_62, e252_65, e252_66, e252_67, e252_70, e252_71, e252_74, e252_77, e252_80, e252_81, e252_82, e252_83, e252_84, e252_85, e252_86, e252_87, e252_90, e252_93, e252_94, e252_95, e252_96, e252_99, e252_100, e252_103, e252_106, e252_107, e252_109, e252_111, e252_114, e252_115, e252_116, e252_117, e252_118, e252_119, e252_120, e252_121, e252_124, e252_126, e252_127, e252_130, e252_133, e252_135, e252_138, e252_139, e252_140, e252_143, e252_146, e252_149, e252_152, e252_153, e252_156, e252_157, e252_160, e252_161, e252_164, e252_167, e252_168, e252_171, e252_173, e252_176, e252_177, e252_178, e252_181, e252_184, e252_185, e252_186, e252_189, e252_190, bI_eq0, k0, h6, true_and, or_true]
      have fin := fun F' (hq : MQx q (a + 13) FI F' AI A AL L) (hm : MO K FR F' A L q a w hs m) (e1 : F' 668 q = nI c) (e2 : F' 669 q = nI lg) (e3 : F' 670 q = oI (updL ls len 0 (SRw w (goalOf w (-2)) (-2) 0 hs m)) (-2)) => hQ F' A L true hm hq ⟨fun _ => h2, fun _ => rfl⟩ (fun _ => ⟨e1, by rw [e2]; congr 1; simp only [LRw]; omega, e3⟩)
      have eS : SRw w (goalOf w (-2)) (-2) 0 hs m = if isFullP w hs m then 0 else 1 := by simp only [SRw, full_goal]
      rw [eS] at fin
      refine ⟨fun z => ?_, fun z => ?_⟩
      · exact fin FI gX g1 h1 h3 (by rw [z]; exact h6)
      · have z' := ts_nf z
        rw [z'] at fin
        have eU : updL ls len 0 (if true = true then 0 else 1) = minO ls len := by unfold updL; rfl
        rw [eU] at fin
        have upd : Q (some (.int 1)) (n, K, mj_u2 FI 670 q (nI len), FL, FR, A, L, AR) ∨ minO ls len = ls := by
          cases ls with
          | none =>
            left
            have hq : MQx q (a + 13) FI (mj_u2 FI 670 q (nI len)) AI A AL L := gX.trans (MQx.fi (by decide))
            exact fin (mj_u2 FI 670 q (nI len)) hq (g1.ofQ (MQx.fi (by decide)) g1.mh) (by rw [mj_u2_1 (by decide)]; exact h1) (by rw [mj_u2_1 (by decide)]; exact h3) mj_u2_s
          | some l =>
            by_cases y : len < l
            · left
              have hq : MQx q (a + 13) FI (mj_u2 FI 670 q (nI len)) AI A AL L := gX.trans (MQx.fi (by decide))
              exact fin (mj_u2 FI 670 q (nI len)) hq (g1.ofQ (MQx.fi (by decide)) g1.mh) (by rw [mj_u2_1 (by decide)]; exact h1) (by rw [mj_u2_1 (by decide)]; exact h3) (by rw [mj_u2_s]; simp only [minO, oI]; congr 1; omega)
            · right
              simp only [minO]; congr 1; omega
        rcases upd with up | same
        · refine ⟨fun _ => up, fun y => ⟨fun y2 => ?_, fun _ => up⟩⟩
          cases ls with
          | none => exact absurd rfl y
          | some l =>
            have hl := h6' l rfl
            have := (nI_leI (show l < 2 ^ 31 by omega) (show len < 2 ^ 31 by omega)).mp y2
            have e : minO (some l) len = some l := by simp only [minO]; congr 1; omega
            rw [e] at fin
            exact fin FI gX g1 h1 h3 h6
        · rw [same] at fin
          cases ls with
          | none => cases same
          | some l =>
            have hl := h6' l rfl
            have hle : l ≤ len := by simp only [minO, Option.some.injEq] at same; omega
            refine ⟨fun y => ?_, fun _ => ⟨fun _ => fin FI gX g1 h1 h3 h6, fun y => absurd (nI_le hle (by omega)) y⟩⟩
            have h3' : nI l < 0 := by simp only [oI] at y; rw [y]; decide
            exact absurd h3' (nI_pos (by omega))
    refine n252 k0 ?_
    simp only [e252_0, e252_1, e252_2, e252_3, e252_7, e252_8, e252_11, e252_14, e252_17, e252_18, e252_21, e252_22, e252_26, e252_27, e252_30, e252_33, e252_34, e252_36, e252_38, e252_41, e252_44, e252_45, e252_47, e252_49, e252_52, e252_55, e252_58, e252_59, e252_60, e252_61, e252_61i, e252_62, e252_65, e252_66, e252_67, e252_70, e252_71, e252_74, e252_77, e252_80, e252_81, e252_82, e252_83, e252_84, e252_85, e252_86, e252_87, e252_90, e252_93, e252_94, e252_95, e252_96, e252_99, e252_100, e252_103, e252_106, e252_107, e252_109, e252_111, e252_114, e252_115, e252_116, e252_117, e252_118, e252_119, e252_120, e252_121, e252_124, e252_126, e252_127, e252_130, e252_133, e252_135, e252_138, e252_139, e252_140, e252_143, e252_146, e252_149, e252_152, e252_153, e252_156, e252_157, e252_160, e252_161, e252_164, e252_167, e252_168, e252_171, e252_173, e252_176, e252_177, e252_178, e252_181, e252_184, e252_185, e252_186, e252_189, e252_190, mj_kl]
    have : WP sa (EV sa (d + 9)) 252 Q 0 0 5 [.ref q, .int (nI 0), .int (nI len), .int 0, .int 0, mj_u, mj_u] [] (n, K, FI, FL, FR, AI, AL, AR) := by
      rw [e252_5]
      simp only [e252_7, e252_8, e252_11, e252_14, e252_17, e252_18, k0, hO.2.1, rf_some, hO.1.2.1.1, w4, true_and]
      exact ⟨fun _ => end0, fun _ => ⟨fun _ => end0, fun z => absurd (by decide) z⟩⟩
    simpa [mj_u, mj_kl] using this
  | succ f IHf =>
    intro hs m FI AI AL Q len c lg ls hO h1 h2 h3 h4 h5 h6 h6' h7 hQ
    have k0 := hO.k
    have h32 := hO.c32
    have hw := hO.ok
    have hn4 := hw.2.2.2.1
    have h30 := hO.mh.2.1
    generalize hfN : (fun i => if mvp w hs m i then 1 + NRw w f (pushM w hs m i (-2)) (m + 1) else 0) = fN
    generalize hfL : (fun i => if mvp w hs m i then 1 + LRw w f (pushM w hs m i (-2)) (m + 1) else 0) = fL
    generalize hfS : (fun i => if mvp w hs m i then 1 + SRw w (goalOf w (-2)) (-2) f (pushM w hs m i (-2)) (m + 1) else f + 2) = fS
    have eN : NRw w (f + 1) hs m = sm fN (32 * wNB w) := by simp only [NRw, hfN]
    have eL : LRw w (f + 1) hs m = mxm fL (32 * wNB w) := by simp only [LRw, hfL]
    have eS : SRw w (goalOf w (-2)) (-2) (f + 1) hs m = if isFullP w hs m then 0 else mnm fS (f + 2) (32 * wNB w) := by simp only [SRw, full_goal, hfS]
    have nN : ∀ i, mvp w hs m i = false → fN i = 0 := fun i hi => by rw [← hfN]; simp only [hi]; rfl
    have nL : ∀ i, mvp w hs m i = false → fL i = 0 := fun i hi => by rw [← hfL]; simp only [hi]; rfl
    have nS : ∀ i, mvp w hs m i = false → f + 2 ≤ fS i := fun i hi => by rw [← hfS]; simp only [hi]; exact Nat.le_refl _
    have hL4 : ∀ i, mxm fL i ≤ f + 1 := mxm_le (fun i => by
      rw [← hfL]
      show (if mvp w hs m i then 1 + LRw w f (pushM w hs m i (-2)) (m + 1) else 0) ≤ f + 1
      split
      · have := LRw_le w f (pushM w hs m i (-2)) (m + 1); omega
      · omega)
    -- the end
    have fin : ∀ (F A : Nat → Nat → Int32) (L : Nat → Nat → Int64) (any : Bool), MO K FR F A L q a w hs m → MQx q (a + 13) FI F AI A AL L → any = ex (fun i => mvp w hs m i) (32 * wNB w) → c + sm fN (32 * wNB w) ≤ 20000 → F 668 q = nI (c + sm fN (32 * wNB w)) → F 669 q = nI (max lg (len + mxm fL (32 * wNB w))) → F 670 q = oI (updL ls len (f + 1) (mnm fS (f + 2) (32 * wNB w))) (-2) → ∀ x4 x5 x6 : Value, WP sa (EV sa (d + f + 10)) 252 Q 0 0 152 [.ref q, .int (nI (f + 1)), .int (nI len), .int (bI any), x4, x5, x6] [] (n, K, F, FL, FR, A, L, AR) := by
      intro F A L any hA hX hany hc e1 e2 e3 x4 x5 x6
      have efull : isFullP w hs m = !any := by
        rw [hany]
        cases y : isFullP w hs m with
        | true => rw [ex_false.mpr ((full_mvp hw).mp y)]; rfl
        | false =>
          cases y2 : ex (fun i => mvp w hs m i) (32 * wNB w) with
          | true => rfl
          | false => rw [(full_mvp hw).mpr (ex_false.mp y2)] at y; cases y
      have go := fun F' (hq : MQx q (a + 13) FI F' AI A AL L) (hm : MO K FR F' A L q a w hs m) (e1 : F' 668 q = nI (c + sm fN (32 * wNB w))) (e2 : F' 669 q = nI (max lg (len + mxm fL (32 * wNB w)))) (e3 : F' 670 q = oI (updL ls len (f + 1) (if isFullP w hs m then 0 else mnm fS (f + 2) (32 * wNB w))) (-2)) => hQ F' A L true hm hq ⟨fun _ => by rw [eN]; exact hc, fun _ => rfl⟩ (fun _ => ⟨by rw [eN]; exact e1, by rw [eL]; exact e2, by rw [eS]; exact e3⟩)
      simp only [e252_0, e252_1, e252_2, e252_3, e252_7, e252_8, e252_11, e252_14, e252_17, e252_18, e252_21, e252_22, e252_26, e252_27, e252_30, e252_33, e252_34, e252_36, e252_38, e252_41, e252_44, e252_45, e252_47, e252_49, e252_52, e252_55, e252_58, e252_59, e252_60, e252_61, e252_61i, e252_62, e252_65, e252_66, e252_67, e252_70, e252_71, e252_74, e252_77, e252_80, e252_81, e252_82, e252_83, e252_84, e252_85, e252_86, e252_87, e252_90, e252_93, e252_94, e252_95, e252_96, e252_99, e252_100, e252_103, e252_106, e252_107, e252_109, e252_111, e252_114, e252_115, e252_116, e252_117, e252_118, e252_119, e252_120, e252_121, e252_124, e252_126, e252_127, e252_130, e252_133, e252_135, e252_138, e252_139, e252_140, e252_143, e252_146, e252_149, e252_152, e252_153, e252_156, e252_157, e252_160, e252_161, e252_164, e252_167, e252_168, e252_171, e252_173, e252_176, e252_177, e252_178, e252_181, e252_184, e252_185, e252_186, e252_189, e252_190, bI_eq0]
      refine ⟨fun z => ?_, fun z => ?_⟩
      · have z' := ts_nf z
        rw [efull, z'] at go
        simp only [or_true, true_and]
        exact go F hX hA e1 e2 e3
      · have z' : any = false := by simpa using z
        rw [efull, z'] at go
        have hall : ∀ i, i < 32 * wNB w → mvp w hs m i = false := (full_mvp hw).mp (by rw [efull, z']; rfl)
        have em : mnm fS (f + 2) (32 * wNB w) = f + 2 := by
          have := mnm_skip (f := fS) (top := f + 2) (a := 0) (k := 32 * wNB w) (fun i _ h2 => nS i (hall i (by omega)))
          rw [Nat.zero_add] at this
          rw [this]; rfl
        have eU0 : updL ls len (f + 1) (mnm fS (f + 2) (32 * wNB w)) = ls := by rw [em]; unfold updL; rw [if_neg (by omega)]
        rw [eU0] at e3
        have eU : updL ls len (f + 1) (if (!false) = true then 0 else mnm fS (f + 2) (32 * wNB w)) = minO ls len := by unfold updL; rfl
        rw [eU] at go
        refine ⟨fun _ => ?_, fun z => absurd (show (0 : Int32) < nI (f + 1) from nI_lt (a := 0) (by omega) (by omega)) z⟩
        simp only [e252_0, e252_1, e252_2, e252_3, e252_7, e252_8, e252_11, e252_14, e252_17, e252_18, e252_21, e252_22, e252_26, e252_27, e252_30, e252_33, e252_34, e252_36, e252_38, e252_41, e252_44, e252_45, e252_47, e252_49, e252_52, e252_55, e252_58, e252_59, e252_60, e252_61, e252_61i, e252_62, e252_65, e252_66, e252_67, e252_70, e252_71, e252_74, e252_77, e252_80, e252_81, e252_82, e252_83, e252_84, e252_85, e252_86, e252_87, e252_90, e252_93, e252_94, e252_95, e252_96, e252_99, e252_100, e252_103, e252_106, e252_107, e252_109, e252_111, e252_114, e252_115, e252_116, e252_117, e252_118, e252_119, e252_120, e252_121, e252_124, e252_126, e252_127, e252_130, e252_133, e252_135, e252_138, e252_139, e252_140, e252_143, e252_146, e252_149, e252_152, e252_153, e252_156, e252_157, e252_160, e252_161, e252_164, e252_167, e252_168, e252_171, e252_173, e252_176, e252_177, e252_178, e252_181, e252_184, e252_185, e252_186, e252_189, e252_190, k0, e3, true_and, or_true]
        have hq : MQx q (a + 13) FI (mj_u2 F 670 q (nI len)) AI A AL L := hX.trans (MQx.fi (by decide))
        have up : FI 670 q = FI 670 q → minO ls len = some len → Q (some (.int 1)) (n, K, mj_u2 F 670 q (nI len), FL, FR, A, L, AR) := fun _ e => by
          rw [e] at go
          exact go (mj_u2 F 670 q (nI len)) hq (hA.ofQ (MQx.fi (by decide)) hA.mh) (by rw [mj_u2_1 (by decide)]; exact e1) (by rw [mj_u2_1 (by decide)]; exact e2) mj_u2_s
        cases ls with
        | none => exact ⟨fun _ => up rfl rfl, fun y => absurd rfl y⟩
        | some l =>
          have hl := h6' l rfl
          simp only [oI, nI_leI (show l < 2 ^ 31 by omega) (show len < 2 ^ 31 by omega)]
          refine ⟨fun y => ?_, fun _ => ⟨fun y => ?_, fun y => up rfl (by simp only [minO]; congr 1; omega)⟩⟩
          · have h3' : nI l < 0 := by rw [y]; decide
            exact absurd h3' (nI_pos (by omega))
          · rw [show minO (some l) len = some l by simp only [minO]; congr 1; omega] at go
            exact go F hX hA e1 e2 e3
    -- the loops
    have outer : ∀ rr b, b + rr = wNB w → ∀ (F A : Nat → Nat → Int32) (L : Nat → Nat → Int64), MO K FR F A L q a w hs m → MQx q (a + 13) FI F AI A AL L → c + sm fN (32 * b) ≤ 20000 → F 668 q = nI (c + sm fN (32 * b)) → F 669 q = nI (max lg (len + mxm fL (32 * b))) → F 670 q = oI (updL ls len (f + 1) (mnm fS (f + 2) (32 * b))) (-2) → ∀ x5 x6 : Value, WP sa (EV sa (d + f + 10)) 252 Q 0 0 5 [.ref q, .int (nI (f + 1)), .int (nI len), .int (bI (ex (fun i => mvp w hs m i) (32 * b))), .int (nI b), x5, x6] [] (n, K, F, FL, FR, A, L, AR) := by
      intro rr
      induction rr with
      | zero =>
        intro b hb F A L hA hX hc e1 e2 e3 x5 x6
        have hb' : b = wNB w := by omega
        subst hb'
        have w4 := hA.1.2.2.2.1.1.2.2.2.1
        rw [e252_5]
        simp only [e252_7, e252_8, e252_11, e252_14, k0, hA.2.1, rf_some, hA.1.2.1.1, w4, true_and]
        exact ⟨fun _ => fin F A L _ hA hX rfl hc e1 e2 e3 _ _ _, fun z => absurd (nI_le (Nat.le_refl _) (by omega)) z⟩
      | succ rr IH =>
        intro b hb F A L hA hX hc e1 e2 e3 x5 x6
        have inner : ∀ sr y, y + sr = wW w * wH w → ∀ (F A : Nat → Nat → Int32) (L : Nat → Nat → Int64), MO K FR F A L q a w hs m → MQx q (a + 13) FI F AI A AL L → c + sm fN (32 * b + y) ≤ 20000 → F 668 q = nI (c + sm fN (32 * b + y)) → F 669 q = nI (max lg (len + mxm fL (32 * b + y))) → F 670 q = oI (updL ls len (f + 1) (mnm fS (f + 2) (32 * b + y))) (-2) → ∀ x6 : Value, WP sa (EV sa (d + f + 10)) 252 Q 0 0 24 [.ref q, .int (nI (f + 1)), .int (nI len), .int (bI (ex (fun i => mvp w hs m i) (32 * b + y))), .int (nI b), .int (nI y), x6] [] (n, K, F, FL, FR, A, L, AR) := by
          intro sr
          induction sr with
          | zero =>
            intro y hy F A L hA hX hc e1 e2 e3 x6
            have hy' : y = wW w * wH w := by omega
            subst hy'
            have out : ∀ i, 32 * b + wW w * wH w ≤ i → i < 32 * b + wW w * wH w + (32 - wW w * wH w) → mvp w hs m i = false := fun i i1 i2 => mvp_out hw (show b < wNB w by omega) i1 (by omega)
            have e32 : 32 * b + wW w * wH w + (32 - wW w * wH w) = 32 * (b + 1) := by omega
            have s1 := sm_skip (f := fN) (fun i i1 i2 => nN i (out i i1 i2))
            have s2 := mxm_skip (f := fL) (fun i i1 i2 => nL i (out i i1 i2))
            have s3 := mnm_skip (f := fS) (top := f + 2) (fun i i1 i2 => nS i (out i i1 i2))
            have s4 := ex_skip (p := fun i => mvp w hs m i) out
            rw [e32] at s1 s2 s3 s4
            rw [← s1] at hc e1
            rw [← s2] at e2
            rw [← s3] at e3
            rw [e252_24]
            simp only [e252_0, e252_1, e252_2, e252_3, e252_7, e252_8, e252_11, e252_14, e252_17, e252_18, e252_21, e252_22, e252_26, e252_27, e252_30, e252_33, e252_34, e252_36, e252_38, e252_41, e252_44, e252_45, e252_47, e252_49, e252_52, e252_55, e252_58, e252_59, e252_60, e252_61, e252_61i, e252_62, e252_65, e252_66, e252_67, e252_70, e252_71, e252_74, e252_77, e252_80, e252_81, e252_82, e252_83, e252_84, e252_85, e252_86, e252_87, e252_90, e252_93, e252_94, e252_95, e252_96, e252_99, e252_100, e252_103, e252_106, e252_107, e252_109, e252_111, e252_114, e252_115, e252_116, e252_117, e252_118, e252_119, e252_120, e252_121, e252_124, e252_126, e252_127, e252_130, e252_133, e252_135, e252_138, e252_139, e252_140, e252_143, e252_146, e252_149, e252_152, e252_153, e252_156, e252_157, e252_160, e252_161, e252_164, e252_167, e252_168, e252_171, e252_173, e252_176, e252_177, e252_178, e252_181, e252_184, e252_185, e252_186, e252_189, e252_190]
            refine ⟨by simp, c_mOcells hA ?_⟩
            rw [← s4]
            simp only [tl_some, e252_0, e252_1, e252_2, e252_3, e252_7, e252_8, e252_11, e252_14, e252_17, e252_18, e252_21, e252_22, e252_26, e252_27, e252_30, e252_33, e252_34, e252_36, e252_38, e252_41, e252_44, e252_45, e252_47, e252_49, e252_52, e252_55, e252_58, e252_59, e252_60, e252_61, e252_61i, e252_62, e252_65, e252_66, e252_67, e252_70, e252_71, e252_74, e252_77, e252_80, e252_81, e252_82, e252_83, e252_84, e252_85, e252_86, e252_87, e252_90, e252_93, e252_94, e252_95, e252_96, e252_99, e252_100, e252_103, e252_106, e252_107, e252_109, e252_111, e252_114, e252_115, e252_116, e252_117, e252_118, e252_119, e252_120, e252_121, e252_124, e252_126, e252_127, e252_130, e252_133, e252_135, e252_138, e252_139, e252_140, e252_143, e252_146, e252_149, e252_152, e252_153, e252_156, e252_157, e252_160, e252_161, e252_164, e252_167, e252_168, e252_171, e252_173, e252_176, e252_177, e252_178, e252_181, e252_184, e252_185, e252_186, e252_189, e252_190, nI_1, mj_kl]
            exact ⟨fun _ => IH (b + 1) (by omega) F A L hA hX hc e1 e2 e3 _ _, fun z => absurd (nI_le (Nat.le_refl _) (by omega)) z⟩
          | succ sr ih =>
            intro y hy F A L hA hX hc e1 e2 e3 x6
            have nx := ih (y + 1) (by omega)
            have i1 : 32 * b + (y + 1) = 32 * b + y + 1 := by omega
            rw [i1, show sm fN (32 * b + y + 1) = sm fN (32 * b + y) + fN (32 * b + y) from rfl, show mxm fL (32 * b + y + 1) = max (mxm fL (32 * b + y)) (fL (32 * b + y)) from rfl, show mnm fS (f + 2) (32 * b + y + 1) = min (mnm fS (f + 2) (32 * b + y)) (fS (32 * b + y)) from rfl, show ex (fun i => mvp w hs m i) (32 * b + y + 1) = (ex (fun i => mvp w hs m i) (32 * b + y) || mvp w hs m (32 * b + y)) from rfl, mvp_at (by omega)] at nx
            have hmt := mnm_le_top fS (f + 2) (32 * b + y)
            have hml := hL4 (32 * b + y)
            have skip : mayAt w hs m b y = false → ∀ (F A : Nat → Nat → Int32) (L : Nat → Nat → Int64), MO K FR F A L q a w hs m → MQx q (a + 13) FI F AI A AL L → F 668 q = nI (c + sm fN (32 * b + y)) → F 669 q = nI (max lg (len + mxm fL (32 * b + y))) → F 670 q = oI (updL ls len (f + 1) (mnm fS (f + 2) (32 * b + y))) (-2) → WP sa (EV sa (d + f + 10)) 252 Q 0 0 24 [.ref q, .int (nI (f + 1)), .int (nI len), .int (bI (ex (fun i => mvp w hs m i) (32 * b + y))), .int (nI b), .int (nI (y + 1)), x6] [] (n, K, F, FL, FR, A, L, AR) := fun hno F A L hA hX e1 e2 e3 => by
              have hmv : mvp w hs m (32 * b + y) = false := by rw [mvp_at (by omega)]; exact hno
              have q1 := nN _ hmv
              have q2 := nL _ hmv
              have q3 := nS _ hmv
              have := nx F A L hA hX (by omega) (by rw [q1]; exact e1) (by rw [q2, Nat.max_eq_left (Nat.zero_le _)]; exact e2) (by rw [show min (mnm fS (f + 2) (32 * b + y)) (fS (32 * b + y)) = mnm fS (f + 2) (32 * b + y) by omega]; exact e3) x6
              rw [hno, Bool.or_false] at this
              exact this
            rw [e252_24]
            simp only [e252_0, e252_1, e252_2, e252_3, e252_7, e252_8, e252_11, e252_14, e252_17, e252_18, e252_21, e252_22, e252_26, e252_27, e252_30, e252_33, e252_34, e252_36, e252_38, e252_41, e252_44, e252_45, e252_47, e252_49, e252_52, e252_55, e252_58, e252_59, e252_60, e252_61, e252_61i, e252_62, e252_65, e252_66, e252_67, e252_70, e252_71, e252_74, e252_77, e252_80, e252_81, e252_82, e252_83, e252_84, e252_85, e252_86, e252_87, e252_90, e252_93, e252_94, e252_95, e252_96, e252_99, e252_100, e252_103, e252_106, e252_107, e252_109, e252_111, e252_114, e252_115, e252_116, e252_117, e252_118, e252_119, e252_120, e252_121, e252_124, e252_126, e252_127, e252_130, e252_133, e252_135, e252_138, e252_139, e252_140, e252_143, e252_149, e252_152, e252_153, e252_156, e252_157, e252_160, e252_161, e252_164, e252_167, e252_168, e252_171, e252_173, e252_176, e252_177, e252_178, e252_181, e252_184, e252_185, e252_186, e252_189, e252_190]
            refine ⟨by simp, c_mOcells hA ?_⟩
            simp only [tl_some, e252_0, e252_1, e252_2, e252_3, e252_7, e252_8, e252_11, e252_14, e252_17, e252_18, e252_21, e252_22, e252_26, e252_27, e252_30, e252_33, e252_34, e252_36, e252_38, e252_41, e252_44, e252_45, e252_47, e252_49, e252_52, e252_55, e252_58, e252_59, e252_60, e252_61, e252_61i, e252_62, e252_65, e252_66, e252_67, e252_70, e252_71, e252_74, e252_77, e252_80, e252_81, e252_82, e252_83, e252_84, e252_85, e252_86, e252_87, e252_90, e252_93, e252_94, e252_95, e252_96, e252_99, e252_100, e252_103, e252_106, e252_107, e252_109, e252_111, e252_114, e252_115, e252_116, e252_117, e252_118, e252_119, e252_120, e252_121, e252_124, e252_126, e252_127, e252_130, e252_133, e252_135, e252_138, e252_139, e252_140, e252_143, e252_149, e252_152, e252_153, e252_156, e252_157, e252_160, e252_161, e252_164, e252_167, e252_168, e252_171, e252_173, e252_176, e252_177, e252_178, e252_181, e252_184, e252_185, e252_186, e252_189, e252_190]
            refine ⟨fun z => absurd z (nI_ge (by omega) (by omega)), fun _ => ⟨by simp, c_misOnAt hA (by omega) (by omega) ?_⟩⟩
            simp only [tl_some, e252_0, e252_1, e252_2, e252_3, e252_7, e252_8, e252_11, e252_14, e252_17, e252_18, e252_21, e252_22, e252_26, e252_27, e252_30, e252_33, e252_34, e252_36, e252_38, e252_41, e252_44, e252_45, e252_47, e252_49, e252_52, e252_55, e252_58, e252_59, e252_60, e252_61, e252_61i, e252_62, e252_65, e252_66, e252_67, e252_70, e252_71, e252_74, e252_77, e252_80, e252_81, e252_82, e252_83, e252_84, e252_85, e252_86, e252_87, e252_90, e252_93, e252_94, e252_95, e252_96, e252_99, e252_100, e252_103, e252_106, e252_107, e252_109, e252_111, e252_114, e252_115, e252_116, e252_117, e252_118, e252_119, e252_120, e252_121, e252_124, e252_126, e252_127, e252_130, e252_133, e252_135, e252_138, e252_139, e252_140, e252_143, e252_149, e252_152, e252_153, e252_156, e252_157, e252_160, e252_161, e252_164, e252_167, e252_168, e252_171, e252_173, e252_176, e252_177, e252_178, e252_181, e252_184, e252_185, e252_186, e252_189, e252_190, bI_eq0, nI_1, mj_kl]
            refine ⟨fun z => skip (mayAt_no z) F A L hA hX e1 e2 e3, fun z => ⟨by simp, ?_⟩⟩
            have go7 := fun QQ => c_mmayAt (sa := sa) (d := d + f + 3) (n := n) (FL := FL) (AR := AR) (Q := QQ) hA (show b < wNB w by omega) (show y < 32 by omega) (ts_nf z)
            refine go7 _ fun A3 L3 g5 g6 => ?_
            simp only [tl_some, e252_0, e252_1, e252_2, e252_3, e252_7, e252_8, e252_11, e252_14, e252_17, e252_18, e252_21, e252_22, e252_26, e252_27, e252_30, e252_33, e252_34, e252_36, e252_38, e252_41, e252_44, e252_45, e252_47, e252_49, e252_52, e252_55, e252_58, e252_59, e252_60, e252_61, e252_61i, e252_62, e252_65, e252_66, e252_67, e252_70, e252_71, e252_74, e252_77, e252_80, e252_81, e252_82, e252_83, e252_84, e252_85, e252_86, e252_87, e252_90, e252_93, e252_94, e252_95, e252_96, e252_99, e252_100, e252_106, e252_107, e252_109, e252_111, e252_114, e252_115, e252_116, e252_117, e252_118, e252_119, e252_120, e252_121, e252_124, e252_126, e252_127, e252_130, e252_133, e252_135, e252_138, e252_139, e252_140, e252_143, e252_149, e252_152, e252_153, e252_156, e252_157, e252_160, e252_161, e252_164, e252_167, e252_168, e252_171, e252_173, e252_176, e252_177, e252_178, e252_181, e252_184, e252_185, e252_186, e252_189, e252_190, bI_eq0, nI_1, mj_kl]
            refine ⟨fun z2 => ?_, fun z2 => skip (by simpa using z2) F A3 L3 g5 (hX.trans g6.toMQ) e1 e2 e3⟩
            have hmy := ts_nf z2
            have hmv : mvp w hs m (32 * b + y) = true := by rw [mvp_at (by omega)]; exact hmy
            have vN : fN (32 * b + y) = 1 + NRw w f (puth hs m (b, y % wW w, y / wW w, -2)) (m + 1) := by rw [← hfN]; simp only [hmv, if_true, pushM_at (show y < 32 by omega)]
            have vL : fL (32 * b + y) = 1 + LRw w f (puth hs m (b, y % wW w, y / wW w, -2)) (m + 1) := by rw [← hfL]; simp only [hmv, if_true, pushM_at (show y < 32 by omega)]
            have vS : fS (32 * b + y) = 1 + SRw w (goalOf w (-2)) (-2) f (puth hs m (b, y % wW w, y / wW w, -2)) (m + 1) := by rw [← hfS]; simp only [hmv, if_true, pushM_at (show y < 32 by omega)]
            have hmono := sm_mono fN (show 32 * b + y + 1 ≤ 32 * wNB w by omega)
            rw [show sm fN (32 * b + y + 1) = sm fN (32 * b + y) + fN (32 * b + y) from rfl] at hmono
            have bad : ∀ (F A : Nat → Nat → Int32) (L : Nat → Nat → Int64), MO K FR F A L q a w hs m → MQx q (a + 13) FI F AI A AL L → ¬ c + sm fN (32 * b + y) + fN (32 * b + y) ≤ 20000 → Q (some (.int 0)) (n, K, F, FL, FR, A, L, AR) := fun F A L hA hX hn => hQ F A L false hA hX ⟨fun e => (by cases e), fun e => (by rw [eN] at e; omega)⟩ (fun e => (by cases e))
            simp only [k0, e1, nI_1, mj_u2_s, show (20000 : Int32) = nI 20000 from rfl, nI_leI (show c + sm fN (32 * b + y) + 1 < 2 ^ 31 by omega) (show 20000 < 2 ^ 31 by decide), true_and, true_or]
            have hX3 := hX.trans (g6.toMQ (FI := F))
            have hF1 : MQx q (a + 13) F (mj_u2 F 668 q (nI (c + sm fN (32 * b + y) + 1))) A3 A3 L3 L3 := MQx.fi (by decide)
            refine ⟨fun z3 => ?_, fun z3 => bad _ A3 L3 (g5.ofQ hF1 g5.mh) (hX3.trans hF1) (by omega)⟩
            generalize hG : mj_u2 F 668 q (nI (c + sm fN (32 * b + y) + 1)) = G at hF1 ⊢
            have G8 : G 668 q = nI (c + sm fN (32 * b + y) + 1) := by rw [← hG]; exact mj_u2_s
            have G9 : G 669 q = nI (max lg (len + mxm fL (32 * b + y))) := by rw [← hG, mj_u2_1 (by decide)]; exact e2
            have G0 : G 670 q = oI (updL ls len (f + 1) (mnm fS (f + 2) (32 * b + y))) (-2) := by rw [← hG, mj_u2_1 (by decide)]; exact e3
            -- the longest
            have lng : ∀ lv, lv = max (max lg (len + mxm fL (32 * b + y))) (len + 1) → WP sa (EV sa (d + f + 10)) 252 Q 0 0 103 [.ref q, .int (nI (f + 1)), .int (nI len), .int 1, .int (nI b), .int (nI y), x6] [.int (nI lv), .ref q] (n, K, G, FL, FR, A3, L3, AR) := by
              intro lv hlv
              have hF2 : MQx q (a + 13) G (mj_u2 G 669 q (nI lv)) A3 A3 L3 L3 := MQx.fi (by decide)
              have hX4 := (hX3.trans hF1).trans hF2
              have g5' := (g5.ofQ hF1 g5.mh).ofQ hF2 g5.mh
              simp only [e252_103, e252_106, e252_107, e252_109, e252_111, k0, true_and]
              generalize hH : mj_u2 G 669 q (nI lv) = H at hF2 hX4 g5' ⊢
              have H8 : H 668 q = nI (c + sm fN (32 * b + y) + 1) := by rw [← hH, mj_u2_1 (by decide)]; exact G8
              have H9 : H 669 q = nI lv := by rw [← hH]; exact mj_u2_s
              have H0 : H 670 q = oI (updL ls len (f + 1) (mnm fS (f + 2) (32 * b + y))) (-2) := by rw [← hH, mj_u2_1 (by decide)]; exact G0
              refine ⟨by simp, ?_⟩
              have goP := fun QQ => c_mpasted (sa := sa) (d := d + f + 7) (n := n) (FL := FL) (AR := AR) (Q := QQ) g5' (show b < wNB w by omega) (show y < 32 by omega) hmy
              refine goP _ fun A4 L4 g7 g8 => ?_
              simp only [tl_none, e252_0, e252_1, e252_2, e252_3, e252_7, e252_8, e252_11, e252_14, e252_17, e252_18, e252_21, e252_22, e252_26, e252_27, e252_30, e252_33, e252_34, e252_36, e252_38, e252_41, e252_44, e252_45, e252_47, e252_49, e252_52, e252_55, e252_58, e252_59, e252_60, e252_61, e252_61i, e252_62, e252_65, e252_66, e252_67, e252_70, e252_71, e252_74, e252_77, e252_80, e252_81, e252_82, e252_83, e252_84, e252_85, e252_86, e252_87, e252_90, e252_93, e252_94, e252_95, e252_96, e252_99, e252_100, e252_103, e252_106, e252_107, e252_109, e252_111, e252_114, e252_115, e252_116, e252_117, e252_118, e252_119, e252_120, e252_121, e252_124, e252_126, e252_127, e252_130, e252_133, e252_135, e252_138, e252_139, e252_140, e252_143, e252_149, e252_152, e252_153, e252_156, e252_157, e252_160, e252_161, e252_164, e252_167, e252_168, e252_171, e252_173, e252_176, e252_177, e252_178, e252_181, e252_184, e252_185, e252_186, e252_189, e252_190, show nI (f + 1) - 1 = nI f from nI_pred f, nI_1]
              refine ⟨by simp, ?_⟩
              refine IHf (c := c + sm fN (32 * b + y) + 1) (lg := lv) (len := len + 1) (ls := updL ls len (f + 1) (mnm fS (f + 2) (32 * b + y))) g7 H8 z3 H9 (by omega) (by omega) H0 (updL_le h6' (by omega)) (by omega) fun F5 A5 L5 bb g9 g10 g11 g12 => ?_
              have hX5 := (hX4.trans g8.toMQ).trans g10
              obtain ⟨o1, o2⟩ := g9.off
              have hOn := o1.congr (hs' := hs) (fun k hk => puth_lt hk)
              have hXn := hX5.trans (o2.toMQ (FI := F5))
              simp only [tl_some, e252_0, e252_1, e252_2, e252_3, e252_7, e252_8, e252_11, e252_14, e252_17, e252_18, e252_21, e252_22, e252_26, e252_27, e252_30, e252_33, e252_34, e252_36, e252_38, e252_41, e252_44, e252_45, e252_47, e252_49, e252_52, e252_55, e252_58, e252_59, e252_60, e252_61, e252_61i, e252_62, e252_65, e252_66, e252_67, e252_70, e252_71, e252_74, e252_77, e252_80, e252_81, e252_82, e252_83, e252_84, e252_85, e252_86, e252_87, e252_90, e252_93, e252_94, e252_95, e252_96, e252_99, e252_100, e252_103, e252_106, e252_107, e252_109, e252_111, e252_114, e252_115, e252_116, e252_117, e252_118, e252_119, e252_120, e252_121, e252_124, e252_126, e252_127, e252_130, e252_133, e252_135, e252_138, e252_139, e252_140, e252_143, e252_149, e252_152, e252_153, e252_156, e252_157, e252_160, e252_161, e252_164, e252_167, e252_168, e252_171, e252_173, e252_176, e252_177, e252_178, e252_181, e252_184, e252_185, e252_186, e252_189, e252_190, k0, g9.2.2, rf_some, mj_kl, true_and]
              refine ⟨by simp, ?_⟩
              refine c_takesOff (d := d + f + 9) g9.1.2.2.2.2.1 ?_
              simp only [tl_none, e252_0, e252_1, e252_2, e252_3, e252_7, e252_8, e252_11, e252_14, e252_17, e252_18, e252_21, e252_22, e252_26, e252_27, e252_30, e252_33, e252_34, e252_36, e252_38, e252_41, e252_44, e252_45, e252_47, e252_49, e252_52, e252_55, e252_58, e252_59, e252_60, e252_61, e252_61i, e252_62, e252_65, e252_66, e252_67, e252_70, e252_71, e252_74, e252_77, e252_80, e252_81, e252_82, e252_83, e252_84, e252_85, e252_86, e252_87, e252_90, e252_93, e252_94, e252_95, e252_96, e252_99, e252_100, e252_103, e252_106, e252_107, e252_109, e252_111, e252_114, e252_115, e252_116, e252_117, e252_118, e252_119, e252_120, e252_121, e252_124, e252_126, e252_127, e252_130, e252_133, e252_135, e252_138, e252_139, e252_140, e252_143, e252_149, e252_152, e252_153, e252_156, e252_157, e252_160, e252_161, e252_164, e252_167, e252_168, e252_171, e252_173, e252_176, e252_177, e252_178, e252_181, e252_184, e252_185, e252_186, e252_189, e252_190, bI_eq0, nI_1, mj_kl, true_or, true_and]
              refine ⟨fun y1 => ?_, fun y1 => bad F5 _ L5 hOn hXn ?_⟩
              · have y2 := ts_nf y1
                obtain ⟨r1, r2, r3⟩ := g12 y2
                have r0 := g11.mp y2
                have := nx F5 _ L5 hOn hXn (by rw [vN]; omega) (by rw [r1, vN]; congr 1; omega) (by rw [r2, vL, hlv]; congr 1; omega) (by rw [r3, updL_shift, updL_min, vS]) (.int (bI bb))
                rw [hmy, Bool.or_true] at this
                exact this
              · have y2 : bb = false := by simpa using y1
                intro e
                rw [vN] at e
                have := g11.mpr (by omega)
                rw [y2] at this
                cases this
            simp only [e252_0, e252_1, e252_2, e252_3, e252_7, e252_8, e252_11, e252_14, e252_17, e252_18, e252_21, e252_22, e252_26, e252_27, e252_30, e252_33, e252_34, e252_36, e252_38, e252_41, e252_44, e252_45, e252_47, e252_49, e252_52, e252_55, e252_58, e252_59, e252_60, e252_61, e252_61i, e252_62, e252_65, e252_66, e252_67, e252_70, e252_71, e252_74, e252_77, e252_80, e252_81, e252_82, e252_83, e252_84, e252_85, e252_86, e252_87, e252_90, e252_93, e252_94, e252_95, e252_96, e252_99, e252_100, e252_106, e252_107, e252_109, e252_111, e252_114, e252_115, e252_116, e252_117, e252_118, e252_119, e252_120, e252_121, e252_124, e252_126, e252_127, e252_130, e252_133, e252_135, e252_138, e252_139, e252_140, e252_143, e252_149, e252_152, e252_153, e252_156, e252_157, e252_160, e252_161, e252_164, e252_167, e252_168, e252_171, e252_173, e252_176, e252_177, e252_178, e252_181, e252_184, e252_185, e252_186, e252_189, e252_190, k0, G9, nI_1, nI_leI (show len + 1 < 2 ^ 31 by omega) (show max lg (len + mxm fL (32 * b + y)) < 2 ^ 31 by omega), true_and]
            exact ⟨fun z4 => lng _ (by omega), fun z4 => lng _ (by omega)⟩
        have w4 := hA.1.2.2.2.1.1.2.2.2.1
        rw [e252_5]
        simp only [e252_7, e252_8, e252_11, e252_14, e252_17, e252_18, e252_21, e252_22, k0, hA.2.1, rf_some, hA.1.2.1.1, w4, true_and, mj_kl]
        refine ⟨fun z => absurd z (nI_ge (by omega) (by omega)), fun _ => ⟨fun z => absurd z (nI_nle (by omega) (by omega)), fun _ => ?_⟩⟩
        have := inner (wW w * wH w) 0 (by omega) F A L hA hX hc e1 e2 e3 x6
        simpa [nI_0, mj_kl] using this
    rw [show d + (f + 1) + 10 = (d + f + 10) + 1 by omega]
    refine n252 k0 ?_
    simp only [e252_0, e252_1, e252_2, e252_3, e252_7, e252_8, e252_11, e252_14, e252_17, e252_18, e252_21, e252_22, e252_26, e252_27, e252_30, e252_33, e252_34, e252_36, e252_38, e252_41, e252_44, e252_45, e252_47, e252_49, e252_52, e252_55, e252_58, e252_59, e252_60, e252_61, e252_61i, e252_62, e252_65, e252_66, e252_67, e252_70, e252_71, e252_74, e252_77, e252_80, e252_81, e252_82, e252_83, e252_84, e252_85, e252_86, e252_87, e252_90, e252_93, e252_94, e252_95, e252_96, e252_99, e252_100, e252_103, e252_106, e252_107, e252_109, e252_111, e252_114, e252_115, e252_116, e252_117, e252_118, e252_119, e252_120, e252_121, e252_124, e252_126, e252_127, e252_130, e252_133, e252_135, e252_138, e252_139, e252_140, e252_143, e252_146, e252_149, e252_152, e252_153, e252_156, e252_157, e252_160, e252_161, e252_164, e252_167, e252_168, e252_171, e252_173, e252_176, e252_177, e252_178, e252_181, e252_184, e252_185, e252_186, e252_189, e252_190, mj_kl]
    have := outer (wNB w) 0 (by omega) FI AI AL hO MQx.rfl' (by simp only [Nat.mul_zero, sm]; omega) (by simpa [sm] using h1) (by simp only [Nat.mul_zero, mxm]; rw [h3]; congr 1; omega) (by simp only [Nat.mul_zero, mnm]; rw [h6]; unfold updL; rw [if_neg (by omega)]) mj_u mj_u
    simpa [nI_0, ex, bI, mj_u, mj_kl] using this
end
