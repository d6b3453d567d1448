theorem HungS.fld {K : Nat → Nat × Nat} {FR : Nat → Nat → Option Nat} {h k a : Nat} {v : Option Nat} (hk : 11 < k) (hH : HungS K FR h) : HungS K (mj_u2 FR k a v) h := by
  unfold HungS at hH ⊢
  simp only [mj_u2_1 (show 4 ≠ k by omega), mj_u2_1 (show 5 ≠ k by omega), mj_u2_1 (show 6 ≠ k by omega), mj_u2_1 (show 7 ≠ k by omega), mj_u2_1 (show 8 ≠ k by omega), mj_u2_1 (show 9 ≠ k by omega), mj_u2_1 (show 10 ≠ k by omega), mj_u2_1 (show 11 ≠ k by omega)]
  exact hH
theorem ToldS.fld {K : Nat → Nat × Nat} {FR : Nat → Nat → Option Nat} {t k a : Nat} {v : Option Nat} (hk : k < 391 ∨ 403 < k) (hT : ToldS K FR t) : ToldS K (mj_u2 FR k a v) t := by
  unfold ToldS at hT ⊢
  simp only [mj_u2_1 (show 391 ≠ k by omega), mj_u2_1 (show 392 ≠ k by omega), mj_u2_1 (show 393 ≠ k by omega), mj_u2_1 (show 394 ≠ k by omega), mj_u2_1 (show 395 ≠ k by omega), mj_u2_1 (show 396 ≠ k by omega), mj_u2_1 (show 397 ≠ k by omega), mj_u2_1 (show 398 ≠ k by omega), mj_u2_1 (show 399 ≠ k by omega), mj_u2_1 (show 400 ≠ k by omega), mj_u2_1 (show 401 ≠ k by omega), mj_u2_1 (show 402 ≠ k by omega), mj_u2_1 (show 403 ≠ k by omega)]
  exact hT
theorem HC.fld {K : Nat → Nat × Nat} {FR : Nat → Nat → Option Nat} {FI AI : Nat → Nat → Int32} {AL : Nat → Nat → Int64} {h t m k a : Nat} {w : Wl} {hs : Nat → Hg} {v : Option Nat} (hk : 11 < k) (hk2 : k < 391 ∨ 403 < k) (hC : HC K FR FI AI AL h t w hs m) : HC K (mj_u2 FR k a v) FI AI AL h t w hs m := by
  obtain ⟨hH, hT, ht, r⟩ := hC
  exact ⟨hH.fld hk, hT.fld hk2, by rw [mj_u2_1 (by omega)]; exact ht, r⟩
/-! ## orders -/
/-- one may be stuck up next -/
def oGo (w : Wl) (hs : Nat → Hg) (st sh : Nat → Bool) (hs' : Nat → Hg) (m' i : Nat) : Bool := (!st i && !(ex (fun c => covg w (hs i) c && sh c) 32)) && mayAt w hs' m' (gB (hs i)) (wW w * gY (hs i) + gX (hs i))
def oSt (st : Nat → Bool) (i : Nat) : Nat → Bool := fun k => st k || decide (k = i)
def oSh (w : Wl) (hs : Nat → Hg) (m : Nat) (sh : Nat → Bool) (i : Nat) : Nat → Bool := fun c => sh c || (tp w hs m c == some i)
def oIo (a b : Nat) (st : Nat → Bool) (io : Bool) (i : Nat) : Bool := if i = b then st a else io
def OT (w : Wl) (hs : Nat → Hg) (m : Nat) : Nat → (Nat → Bool) → (Nat → Bool) → (Nat → Hg) → Nat → Nat
  | 0, _, _, _, _ => 1
  | f + 1, st, sh, hs', m' => sm (fun j => if oGo w hs st sh hs' m' (wF w + j) then OT w hs m f (oSt st (wF w + j)) (oSh w hs m sh (wF w + j)) (puth hs' m' (hs (wF w + j))) (m' + 1) else 0) (m - wF w)
def OA (w : Wl) (hs : Nat → Hg) (m a b : Nat) : Nat → (Nat → Bool) → (Nat → Bool) → Bool → (Nat → Hg) → Nat → Nat
  | 0, _, _, io, _, _ => if io then 1 else 0
  | f + 1, st, sh, io, hs', m' => sm (fun j => if oGo w hs st sh hs' m' (wF w + j) then OA w hs m a b f (oSt st (wF w + j)) (oSh w hs m sh (wF w + j)) (oIo a b st io (wF w + j)) (puth hs' m' (hs (wF w + j))) (m' + 1) else 0) (m - wF w)
def OrdS (K : Nat → Nat × Nat) (FR : Nat → Nat → Option Nat) (q : Nat) : Prop := K q = (1, 1) ∧ FR 64 q = some (q + 1) ∧ HungS K FR (q + 1)
def OX (FI FI' AI AI' : Nat → Nat → Int32) (AL AL' : Nat → Nat → Int64) (q : Nat) : Prop := (∀ f a, a ≠ q + 1 → (a ≠ q ∨ (f ≠ 68 ∧ f ≠ 69)) → FI' f a = FI f a) ∧ AIx AI AI' (q + 16) (q + 20) ∧ ALx AL AL' (q + 23) (q + 23)
theorem OX.rfl' {FI AI : Nat → Nat → Int32} {AL : Nat → Nat → Int64} {q : Nat} : OX FI FI AI AI AL AL q := ⟨fun _ _ _ _ => rfl, fun _ _ => rfl, fun _ _ => rfl⟩
theorem OX.trans {FI F1 F2 AI A1 A2 : Nat → Nat → Int32} {AL L1 L2 : Nat → Nat → Int64} {q : Nat} (a : OX FI F1 AI A1 AL L1 q) (b : OX F1 F2 A1 A2 L1 L2 q) : OX FI F2 AI A2 AL L2 q := ⟨fun f z h1 h2 => by rw [b.1 f z h1 h2, a.1 f z h1 h2], a.2.1.trans b.2.1, fun z h => by rw [b.2.2 z h, a.2.2 z h]⟩
theorem TX.toOX {FI F1 AI A1 : Nat → Nat → Int32} {AL L1 : Nat → Nat → Int64} {q : Nat} (a : TX FI F1 AI A1 AL L1 (q + 1)) : OX FI F1 AI A1 AL L1 q := ⟨fun f z h _ => a.1 f z h, a.2.1, a.2.2⟩
theorem OX.toFr {FI F1 AI A1 : Nat → Nat → Int32} {AL L1 : Nat → Nat → Int64} {q : Nat} (a : OX FI F1 AI A1 AL L1 q) : Fr q (q + 23) FI F1 AI A1 AL L1 := fun z hz => ⟨fun f => a.1 f z (by omega) (Or.inl (by omega)), a.2.1 z (by omega), a.2.2 z (by omega)⟩
section
variable {sa : Nat → Nat} {d n t h m : Nat} {Q : mj_Q} {K : Nat → Nat × Nat} {FI : Nat → Nat → Int32} {FL : Nat → Nat → Int64} {FR : Nat → Nat → Option Nat} {AI : Nat → Nat → Int32} {AL : Nat → Nat → Int64} {AR : Nat → Nat → Option Nat} {w : Wl} {hs : Nat → Hg}
variable {q o : Nat}
theorem c_stickUp (hS : OrdS K FR q) (hlk : FR 65 q = some o) (sep : q + 23 < o ∨ o + 22 < q) (sep2 : t + 13 < q ∨ q + 23 < t) {a b : Nat} (ha : a < 32) (hb : b < 32) (hF : wF w ≤ m) (h7 : m - wF w ≤ 7) : ∀ (f : Nat) {dp : Nat} {st sh : Nat → Bool} {io : Bool} {hs' : Nat → Hg} {m' : Nat} {FI AI : Nat → Nat → Int32} {AL : Nat → Nat → Int64} {Q : mj_Q} {mst msh : Int32}, dp + f = m - wF w → HC K FR FI AI AL o t w hs m → HC K FR FI AI AL (q + 1) t w hs' m' → FI 66 q = nI a → FI 67 q = nI b → Mk mst st → Mk msh sh → (∀ (FI' AI' : Nat → Nat → Int32) (AL' : Nat → Nat → Int64), HC K FR FI' AI' AL' o t w hs m → HC K FR FI' AI' AL' (q + 1) t w hs' m' → OX FI FI' AI AI' AL AL' q → FI' 68 q = FI 68 q + nI (OT w hs m f st sh hs' m') → FI' 69 q = FI 69 q + nI (OA w hs m a b f st sh io hs' m') → Q none (n, K, FI', FL, FR, AI', AL', AR)) → EV sa (d + f + 6) 29 [.ref q, .int (nI dp), .int mst, .int msh, .int (bI io)] (n, K, FI, FL, FR, AI, AL, AR) Q := by
  have k0 := hS.1
  have f0 := hS.2.1
  intro f
  induction f with
  | zero =>
    intro dp st sh io hs' m' FI AI AL Q mst msh hdp hO hC h66 h67 hst hsh hQ
    have h30 := hO.2.2.2.2.2.1.2.1
    refine n29 k0 ?_
    have esub : nI m - nI (wF w) = nI (m - wF w) := nq_sub hF
    simp only [e29_0, e29_1, e29_2, e29_5, e29_8, e29_9, e29_12, e29_15, e29_16, e29_19, e29_20, e29_22, e29_25, e29_26, e29_26i, e29_27, e29_30, e29_31, e29_32, e29_35, e29_36, e29_36i, e29_37, e29_40, e29_42, e29_45, e29_46, e29_49, e29_50, e29_51, e29_54, e29_55, e29_56, e29_59, e29_62, e29_66, e29_67, e29_70, e29_73, e29_76, e29_77, e29_79, e29_80, e29_81, e29_82, e29_85, e29_86, e29_89, e29_92, e29_94, e29_95, e29_96, e29_97, e29_100, e29_101, e29_104, e29_105, e29_107, e29_109, e29_112, e29_113, e29_116, e29_117, e29_120, e29_123, e29_125, e29_126, e29_127, e29_130, e29_133, e29_135, e29_136, e29_139, e29_142, e29_144, e29_145, e29_148, e29_151, e29_152, e29_153, e29_156, e29_157, e29_158, e29_159, e29_162, e29_163, e29_166, e29_167, e29_170, e29_172, e29_174, e29_175, e29_178, e29_179, e29_182, e29_185, e29_187, e29_188, e29_189, e29_192, e29_195, e29_197, e29_198, e29_199, e29_202, e29_205, e29_207, e29_208, e29_211, e29_212, e29_213, e29_214, e29_215, e29_216, e29_217, e29_219, e29_220, e29_221, e29_222, e29_223, e29_226, e29_229, e29_231, e29_232, e29_233, e29_235, e29_238, e29_239, e29_242, e29_243, e29_246, e29_249, e29_250, e29_251, e29_254, e29_257, e29_260, k0, hlk, rf_some, true_and, hO.1.1, hO.2.2.2.2.2.1.1, hO.2.2.2.2.2.1.2.2.1, esub]
    refine ⟨fun _ => ?_, fun z => absurd (nI_le (by omega) (by omega)) z⟩
    simp only [OT, OA] at hQ
    have u1 : ∀ x : Int32, mj_u2 FI 68 q x 69 q = FI 69 q := fun x => mj_u2_1 (by decide)
    have fin : ∀ y : Int32, y = FI 69 q + nI (if io then 1 else 0) → Q none (n, K, mj_u2 (mj_u2 FI 68 q (FI 68 q + 1)) 69 q y, FL, FR, AI, AL, AR) := by
      intro y hy
      have eF : ∀ a, a ≠ q → ∀ f, mj_u2 (mj_u2 FI 68 q (FI 68 q + 1)) 69 q y f a = FI f a := fun a ha f => by
        simp only [mj_u2]
        rw [if_neg (fun z => ha z.2), if_neg (fun z => ha z.2)]
      refine hQ _ AI AL (hO.fx (eF o (by omega)) (eF t (by omega))) (hC.fx (eF (q + 1) (by omega)) (eF t (by omega))) ⟨fun f a z1 z2 => ?_, AIx.rfl', fun _ _ => rfl⟩ ?_ ?_
      · simp only [mj_u2]
        rw [if_neg (by omega), if_neg (by omega)]
      · rw [mj_u2_1 (by decide), mj_u2_s]; rfl
      · rw [mj_u2_s]; exact hy
    simp only [u1, bI_eq0]
    refine ⟨fun z => fin _ ?_, fun z => fin _ ?_⟩
    · rw [z]; simp [nI_0]
    · rw [show io = true by simpa using z]; simp; rfl
  | succ f IH =>
    intro dp st sh io hs' m' FI AI AL Q mst msh hdp hO hC h66 h67 hst hsh hQ
    have h30 := hO.2.2.2.2.2.1.2.1
    have hw := hO.2.2.2.1
    rw [show d + (f + 1) + 6 = (d + f + 6) + 1 by omega]
    generalize hgT : (fun j => if oGo w hs st sh hs' m' (wF w + j) then OT w hs m f (oSt st (wF w + j)) (oSh w hs m sh (wF w + j)) (puth hs' m' (hs (wF w + j))) (m' + 1) else 0) = gT
    have gT' : ∀ j, gT j = if oGo w hs st sh hs' m' (wF w + j) then OT w hs m f (oSt st (wF w + j)) (oSh w hs m sh (wF w + j)) (puth hs' m' (hs (wF w + j))) (m' + 1) else 0 := fun j => by rw [← hgT]
    generalize hgA : (fun j => if oGo w hs st sh hs' m' (wF w + j) then OA w hs m a b f (oSt st (wF w + j)) (oSh w hs m sh (wF w + j)) (oIo a b st io (wF w + j)) (puth hs' m' (hs (wF w + j))) (m' + 1) else 0) = gA
    have gA' : ∀ j, gA j = if oGo w hs st sh hs' m' (wF w + j) then OA w hs m a b f (oSt st (wF w + j)) (oSh w hs m sh (wF w + j)) (oIo a b st io (wF w + j)) (puth hs' m' (hs (wF w + j))) (m' + 1) else 0 := fun j => by rw [← hgA]
    have eT : OT w hs m (f + 1) st sh hs' m' = sm gT (m - wF w) := by rw [← hgT]; rfl
    have eA : OA w hs m a b (f + 1) st sh io hs' m' = sm gA (m - wF w) := by rw [← hgA]; rfl
    rw [eT, eA] at hQ
    have loop : ∀ rr j, j + rr = m - wF w → ∀ (F A : Nat → Nat → Int32) (L : Nat → Nat → Int64), HC K FR F A L o t w hs m → HC K FR F A L (q + 1) t w hs' m' → OX FI F AI A AL L q → F 68 q = FI 68 q + nI (sm gT j) → F 69 q = FI 69 q + nI (sm gA j) → ∀ x6 x7 : Value, WP sa (EV sa (d + f + 6)) 29 Q 0 0 64 [.ref q, .int (nI dp), .int mst, .int msh, .int (bI io), .int (nI (wF w + j)), x6, x7] [] (n, K, F, FL, FR, A, L, AR) := by
      intro rr
      induction rr with
      | zero =>
        intro j hj F A L h1 h2 h3 h4 h5 x6 x7
        have hj' : j = m - wF w := by omega
        subst hj'
        rw [e29_64]
        simp only [e29_0, e29_1, e29_2, e29_5, e29_8, e29_9, e29_12, e29_15, e29_16, e29_19, e29_20, e29_22, e29_25, e29_26, e29_26i, e29_27, e29_30, e29_31, e29_32, e29_35, e29_36, e29_36i, e29_37, e29_40, e29_42, e29_45, e29_46, e29_49, e29_50, e29_51, e29_54, e29_55, e29_56, e29_59, e29_62, e29_66, e29_67, e29_70, e29_73, e29_76, e29_77, e29_79, e29_80, e29_81, e29_82, e29_85, e29_86, e29_89, e29_92, e29_94, e29_95, e29_96, e29_97, e29_100, e29_101, e29_104, e29_105, e29_107, e29_109, e29_112, e29_113, e29_116, e29_117, e29_120, e29_123, e29_125, e29_126, e29_127, e29_130, e29_133, e29_135, e29_136, e29_139, e29_142, e29_144, e29_145, e29_148, e29_151, e29_152, e29_153, e29_156, e29_157, e29_158, e29_159, e29_162, e29_163, e29_166, e29_167, e29_170, e29_172, e29_174, e29_175, e29_178, e29_179, e29_182, e29_185, e29_187, e29_188, e29_189, e29_192, e29_195, e29_197, e29_198, e29_199, e29_202, e29_205, e29_207, e29_208, e29_211, e29_212, e29_213, e29_214, e29_215, e29_216, e29_217, e29_219, e29_220, e29_221, e29_222, e29_223, e29_226, e29_229, e29_231, e29_232, e29_233, e29_235, e29_238, e29_239, e29_242, e29_243, e29_246, e29_249, e29_250, e29_251, e29_254, e29_257, e29_260, k0, hlk, rf_some, true_and, h1.1.1, h1.2.2.2.2.2.1.1]
        exact ⟨fun _ => hQ F A L h1 h2 h3 h4 h5, fun z => absurd (nI_le (by omega) (by omega)) z⟩
      | succ rr ih =>
        intro j hj F A L h1 h2 h3 h4 h5 x6 x7
        obtain ⟨i, hi⟩ : ∃ i, i = wF w + j := ⟨_, rfl⟩
        have him : i < m := by omega
        obtain ⟨g1, g2, g3, g4, g5, g6⟩ := h1.2.2.2.2.2.1.2.2.2.2 i him
        obtain ⟨-, ⟨f4, k15⟩, ⟨f5, k16⟩, ⟨f6, k17⟩, ⟨f7, k18⟩, ⟨f8, k19⟩, -⟩ := id h1.1
        have hin : vp_in (nI i) 30 := vp_in_nI (by omega) (by decide)
        have hcl : (nI i).toNatClampNeg = i := nI_clamp (by omega)
        have gT1 := gT' j
        have gA1 := gA' j
        rw [← hi] at gT1 gA1
        obtain ⟨c1, c2⟩ := corner_lt hw g1
        have hb1 := hst.bit (c := i) (by omega)
        have hb2 := (g5.and hsh).eq0
        have x66 : F 66 q = nI a := by rw [h3.1 66 q (by omega) (by omega)]; exact h66
        have x67 : F 67 q = nI b := by rw [h3.1 67 q (by omega) (by omega)]; exact h67
        have hsT : sm gT (j + 1) = sm gT j + gT j := rfl
        have hsA : sm gA (j + 1) = sm gA j + gA j := rfl
        have skip : oGo w hs st sh hs' m' i = false → ∀ (F A : Nat → Nat → Int32) (L : Nat → Nat → Int64), HC K FR F A L o t w hs m → HC K FR F A L (q + 1) t w hs' m' → OX FI F AI A AL L q → F 68 q = FI 68 q + nI (sm gT j) → F 69 q = FI 69 q + nI (sm gA j) → ∀ x6 x7 : Value, WP sa (EV sa (d + f + 6)) 29 Q 0 0 64 [.ref q, .int (nI dp), .int mst, .int msh, .int (bI io), .int (nI (i + 1)), x6, x7] [] (n, K, F, FL, FR, A, L, AR) := by
          intro e F A L h1 h2 h3 h4 h5 x6 x7
          rw [e] at gT1 gA1
          have := ih (j + 1) (by omega) F A L h1 h2 h3 (by rw [hsT, gT1]; exact h4) (by rw [hsA, gA1]; exact h5) x6 x7
          rw [show wF w + (j + 1) = i + 1 by omega] at this
          exact this
        rw [← hi, e29_64]
        simp only [e29_0, e29_1, e29_2, e29_5, e29_8, e29_9, e29_12, e29_15, e29_16, e29_19, e29_20, e29_22, e29_25, e29_26, e29_26i, e29_27, e29_30, e29_31, e29_32, e29_35, e29_36, e29_36i, e29_37, e29_40, e29_42, e29_45, e29_46, e29_49, e29_50, e29_51, e29_54, e29_55, e29_56, e29_59, e29_62, e29_66, e29_67, e29_70, e29_73, e29_76, e29_77, e29_79, e29_80, e29_81, e29_82, e29_85, e29_86, e29_89, e29_92, e29_94, e29_95, e29_96, e29_97, e29_100, e29_101, e29_104, e29_105, e29_107, e29_109, e29_112, e29_113, e29_116, e29_117, e29_120, e29_123, e29_125, e29_126, e29_127, e29_130, e29_133, e29_135, e29_136, e29_139, e29_142, e29_144, e29_145, e29_148, e29_151, e29_152, e29_153, e29_156, e29_157, e29_158, e29_159, e29_162, e29_163, e29_166, e29_167, e29_170, e29_172, e29_174, e29_175, e29_178, e29_179, e29_182, e29_185, e29_187, e29_188, e29_189, e29_192, e29_195, e29_197, e29_198, e29_199, e29_202, e29_205, e29_207, e29_208, e29_211, e29_212, e29_213, e29_214, e29_215, e29_216, e29_217, e29_219, e29_220, e29_221, e29_222, e29_223, e29_226, e29_229, e29_231, e29_232, e29_233, e29_235, e29_238, e29_239, e29_242, e29_243, e29_246, e29_249, e29_250, e29_251, e29_254, e29_257, e29_260, k0, f0, hlk, rf_some, true_and, true_or, h1.1.1, h1.2.2.2.2.2.1.1, f4, f5, f7, k15, k16, k18, hin, hcl, g2, g3, hb1, hb2, mj_kl, nI_1]
        refine ⟨fun z => absurd z (nI_ge (by omega) (by omega)), fun _ => ⟨fun z => ?_, fun z => ⟨fun z2 => ?_, fun z2 => ?_⟩⟩⟩
        · have z' : st i = true := by simpa using z
          refine ⟨fun _ => skip (by simp [oGo, z']) F A L h1 h2 h3 h4 h5 _ _, fun y => absurd trivial y⟩
        · have z2' : ex (fun c => covg w (hs i) c && sh c) 32 = true := by simpa using z2
          refine ⟨fun _ => skip (by simp [oGo, z2']) F A L h1 h2 h3 h4 h5 _ _, fun y => absurd trivial y⟩
        have z' : st i = false := by simpa using z
        have z2' : ex (fun c => covg w (hs i) c && sh c) 32 = false := by simpa using z2
        refine ⟨fun y => absurd y (by decide), fun _ => ⟨by simp, c_mayGo h2 g1.1 (by omega) fun F2 L2 a1 a2 => ?_⟩⟩
        have tx : TX F F2 A A L L2 (q + 1) := a2.toTX
        have ho2 : HC K FR F2 A L2 o t w hs m := h1.fr tx.toFr (by omega) (by omega)
        have y66 : F2 66 q = nI a := by rw [tx.1 66 q (by omega)]; exact x66
        have y67 : F2 67 q = nI b := by rw [tx.1 67 q (by omega)]; exact x67
        have hgo : oGo w hs st sh hs' m' i = mayAt w hs' m' (gB (hs i)) (wW w * gY (hs i) + gX (hs i)) := by simp [oGo, z', z2']
        rw [← hgo]
        have hba := hst.bit (c := a) ha
        have eib : (nI i = nI b) ↔ i = b := nI_eq (by omega) (by omega)
        simp only [tl_some, e29_0, e29_1, e29_2, e29_5, e29_8, e29_9, e29_12, e29_15, e29_16, e29_19, e29_20, e29_22, e29_25, e29_26, e29_26i, e29_27, e29_30, e29_31, e29_32, e29_35, e29_36, e29_36i, e29_37, e29_40, e29_42, e29_45, e29_46, e29_49, e29_50, e29_51, e29_54, e29_55, e29_56, e29_59, e29_62, e29_66, e29_67, e29_70, e29_73, e29_76, e29_77, e29_79, e29_80, e29_81, e29_82, e29_85, e29_86, e29_89, e29_92, e29_94, e29_95, e29_96, e29_97, e29_100, e29_101, e29_104, e29_105, e29_107, e29_109, e29_112, e29_113, e29_116, e29_117, e29_120, e29_123, e29_125, e29_126, e29_127, e29_130, e29_133, e29_135, e29_136, e29_139, e29_142, e29_144, e29_145, e29_148, e29_151, e29_152, e29_153, e29_156, e29_157, e29_158, e29_159, e29_162, e29_163, e29_166, e29_167, e29_170, e29_172, e29_174, e29_175, e29_178, e29_179, e29_182, e29_185, e29_187, e29_188, e29_189, e29_192, e29_195, e29_197, e29_198, e29_199, e29_202, e29_205, e29_207, e29_208, e29_211, e29_212, e29_213, e29_214, e29_215, e29_216, e29_217, e29_219, e29_220, e29_221, e29_222, e29_223, e29_226, e29_229, e29_231, e29_232, e29_233, e29_235, e29_238, e29_239, e29_242, e29_243, e29_246, e29_249, e29_250, e29_251, e29_254, e29_257, e29_260, k0, f0, hlk, rf_some, true_and, true_or, h1.1.1, f4, f5, f6, k15, k16, k17, hin, hcl, g2, g3, g4, mj_kl, nI_1, bI_eq0, y66, y67, hba, eib]
        have put : oGo w hs st sh hs' m' i = true → ∀ ord : Bool, ord = oIo a b st io i → ∀ v7 : Int32, v7 = bI ord → EV sa (d + f + 6) 3 [.ref (q + 1), .int (nI (gB (hs i))), .int (nI (wW w * gY (hs i) + gX (hs i))), .int (gR (hs i))] (n, K, F2, FL, FR, A, L2, AR) (fun v μ => WP sa (EV sa (d + f + 6)) 29 Q 0 0 211 [.ref q, .int (nI dp), .int mst, .int msh, .int (bI io), .int (nI i), .int 1, .int v7] (v.toList ++ []) μ) := by
          intro hgt ord hord v7 hv7
          have hmg : mayAt w hs' m' (gB (hs i)) (wW w * gY (hs i) + gX (hs i)) = true := by rw [← hgo]; exact hgt
          have hm30 : m' ≠ 30 := fun e => by
            rw [e] at hmg
            simp [mayAt, may, could] at hmg
          have hm' := h2.2.2.2.2.2.1.2.1
          rw [hgt, if_pos rfl] at gT1 gA1
          refine C_put a1 (by omega) g1 fun F3 A3 b1 b2 b3 => ?_
          have eg : (gB (hs i), gX (hs i), gY (hs i), gR (hs i)) = hs i := rfl
          rw [eg] at b1
          have tx3 : TX F2 F3 A A3 L2 L2 (q + 1) := b2.toTX b3
          have ho3 : HC K FR F3 A3 L2 o t w hs m := ho2.fr tx3.toFr (by omega) (by omega)
          obtain ⟨g1', g2', g3', g4', g5', g6'⟩ := ho3.2.2.2.2.2.1.2.2.2.2 i him
          have w66 : F3 66 q = nI a := by rw [tx3.1 66 q (by omega)]; exact y66
          have w67 : F3 67 q = nI b := by rw [tx3.1 67 q (by omega)]; exact y67
          simp only [tl_none, e29_0, e29_1, e29_2, e29_5, e29_8, e29_9, e29_12, e29_15, e29_16, e29_19, e29_20, e29_22, e29_25, e29_26, e29_26i, e29_27, e29_30, e29_31, e29_32, e29_35, e29_36, e29_36i, e29_37, e29_40, e29_42, e29_45, e29_46, e29_49, e29_50, e29_51, e29_54, e29_55, e29_56, e29_59, e29_62, e29_66, e29_67, e29_70, e29_73, e29_76, e29_77, e29_79, e29_80, e29_81, e29_82, e29_85, e29_86, e29_89, e29_92, e29_94, e29_95, e29_96, e29_97, e29_100, e29_101, e29_104, e29_105, e29_107, e29_109, e29_112, e29_113, e29_116, e29_117, e29_120, e29_123, e29_125, e29_126, e29_127, e29_130, e29_133, e29_135, e29_136, e29_139, e29_142, e29_144, e29_145, e29_148, e29_151, e29_152, e29_153, e29_156, e29_157, e29_158, e29_159, e29_162, e29_163, e29_166, e29_167, e29_170, e29_172, e29_174, e29_175, e29_178, e29_179, e29_182, e29_185, e29_187, e29_188, e29_189, e29_192, e29_195, e29_197, e29_198, e29_199, e29_202, e29_205, e29_207, e29_208, e29_211, e29_212, e29_213, e29_214, e29_215, e29_216, e29_217, e29_219, e29_220, e29_221, e29_222, e29_223, e29_226, e29_229, e29_231, e29_232, e29_233, e29_235, e29_238, e29_239, e29_242, e29_243, e29_246, e29_249, e29_250, e29_251, e29_254, e29_257, e29_260, k0, f0, hlk, rf_some, true_and, true_or, h1.1.1, f8, k19, hin, hcl, nI_1]
          subst hv7
          refine ⟨by simp, IH (st := oSt st i) (sh := oSh w hs m sh i) (io := ord) (hs' := puth hs' m' (hs i)) (m' := m' + 1) (by omega) ho3 b1 w66 w67 (hst.or (Mk_one (by omega))) (hsh.or g6') fun F4 A4 L4 e1 e2 e3 e4 e5 => ?_⟩
          simp only [tl_none, e29_0, e29_1, e29_2, e29_5, e29_8, e29_9, e29_12, e29_15, e29_16, e29_19, e29_20, e29_22, e29_25, e29_26, e29_26i, e29_27, e29_30, e29_31, e29_32, e29_35, e29_36, e29_36i, e29_37, e29_40, e29_42, e29_45, e29_46, e29_49, e29_50, e29_51, e29_54, e29_55, e29_56, e29_59, e29_62, e29_66, e29_67, e29_70, e29_73, e29_76, e29_77, e29_79, e29_80, e29_81, e29_82, e29_85, e29_86, e29_89, e29_92, e29_94, e29_95, e29_96, e29_97, e29_100, e29_101, e29_104, e29_105, e29_107, e29_109, e29_112, e29_113, e29_116, e29_117, e29_120, e29_123, e29_125, e29_126, e29_127, e29_130, e29_133, e29_135, e29_136, e29_139, e29_142, e29_144, e29_145, e29_148, e29_151, e29_152, e29_153, e29_156, e29_157, e29_158, e29_159, e29_162, e29_163, e29_166, e29_167, e29_170, e29_172, e29_174, e29_175, e29_178, e29_179, e29_182, e29_185, e29_187, e29_188, e29_189, e29_192, e29_195, e29_197, e29_198, e29_199, e29_202, e29_205, e29_207, e29_208, e29_211, e29_212, e29_213, e29_214, e29_215, e29_216, e29_217, e29_219, e29_220, e29_221, e29_222, e29_223, e29_226, e29_229, e29_231, e29_232, e29_233, e29_235, e29_238, e29_239, e29_242, e29_243, e29_246, e29_249, e29_250, e29_251, e29_254, e29_257, e29_260, k0, f0, rf_some, true_and, e2.1.1, e2.2.2.2.2.2.1.1, nI_pred]
          refine ⟨by simp, C_cutTo (m' := m') e2 (by omega) fun F5 A5 p1 p2 p3 => ?_⟩
          have tx5 : TX F4 F5 A4 A5 L4 L4 (q + 1) := p2.toTX (p3.wide (by omega) (by omega))
          simp only [tl_none, e29_0, e29_1, e29_2, e29_5, e29_8, e29_9, e29_12, e29_15, e29_16, e29_19, e29_20, e29_22, e29_25, e29_26, e29_26i, e29_27, e29_30, e29_31, e29_32, e29_35, e29_36, e29_36i, e29_37, e29_40, e29_42, e29_45, e29_46, e29_49, e29_50, e29_51, e29_54, e29_55, e29_56, e29_59, e29_62, e29_66, e29_67, e29_70, e29_73, e29_76, e29_77, e29_79, e29_80, e29_81, e29_82, e29_85, e29_86, e29_89, e29_92, e29_94, e29_95, e29_96, e29_97, e29_100, e29_101, e29_104, e29_105, e29_107, e29_109, e29_112, e29_113, e29_116, e29_117, e29_120, e29_123, e29_125, e29_126, e29_127, e29_130, e29_133, e29_135, e29_136, e29_139, e29_142, e29_144, e29_145, e29_148, e29_151, e29_152, e29_153, e29_156, e29_157, e29_158, e29_159, e29_162, e29_163, e29_166, e29_167, e29_170, e29_172, e29_174, e29_175, e29_178, e29_179, e29_182, e29_185, e29_187, e29_188, e29_189, e29_192, e29_195, e29_197, e29_198, e29_199, e29_202, e29_205, e29_207, e29_208, e29_211, e29_212, e29_213, e29_214, e29_215, e29_216, e29_217, e29_219, e29_220, e29_221, e29_222, e29_223, e29_226, e29_229, e29_231, e29_232, e29_233, e29_235, e29_238, e29_239, e29_242, e29_243, e29_246, e29_249, e29_250, e29_251, e29_254, e29_257, e29_260, mj_kl, nI_1]
          have ox := h3.trans (tx.toOX.trans (tx3.toOX.trans (e3.trans tx5.toOX)))
          have := ih (j + 1) (by omega) F5 A5 L4 (e1.fr tx5.toFr (by omega) (by omega)) (p1.congr fun k hk => puth_lt hk) ox (by
            rw [tx5.1 68 q (by omega), e4, tx3.1 68 q (by omega), tx.1 68 q (by omega), h4, hsT, gT1, Int32.add_assoc, nI_add]) (by
            rw [tx5.1 69 q (by omega), e5, tx3.1 69 q (by omega), tx.1 69 q (by omega), h5, hsA, gA1, Int32.add_assoc, nI_add, hord]) (.int 1) (.int (bI ord))
          rw [show wF w + (j + 1) = i + 1 by omega] at this
          exact this
        have ox2 := h3.trans tx.toOX
        refine ⟨fun y => skip y F2 A L2 ho2 a1 ox2 ?_ ?_ _ _, fun y => ?_⟩
        · rw [tx.1 68 q (by omega)]; exact h4
        · rw [tx.1 69 q (by omega)]; exact h5
        · have y' : oGo w hs st sh hs' m' i = true := by simpa using y
          have put2 := fun (ord : Bool) (h : ord = oIo a b st io i) (v7 : Int32) (hv : v7 = bI ord) => by
            have p := put y' ord h v7 hv
            simp only [e29_211, e29_212, e29_213, e29_214, e29_215, e29_216, e29_217, e29_219, e29_220, e29_221, e29_222, nI_1] at p
            exact p
          refine ⟨fun x => ⟨by simp, put2 io ?_ _ rfl⟩, fun x => ⟨fun x2 => ⟨by simp, put2 false ?_ _ rfl⟩, fun x2 => ⟨by simp, put2 true ?_ _ rfl⟩⟩⟩
          · simp [oIo, x]
          · have x' : i = b := by simpa using x
            simp [oIo, x', x2]
          · have x' : i = b := by simpa using x
            have x2' : st a = true := by simpa using x2
            simp [oIo, x', x2']
    refine n29 k0 ?_
    have esub : nI m - nI (wF w) = nI (m - wF w) := nq_sub hF
    simp only [e29_0, e29_1, e29_2, e29_5, e29_8, e29_9, e29_12, e29_15, e29_16, e29_19, e29_20, e29_22, e29_25, e29_26, e29_26i, e29_27, e29_30, e29_31, e29_32, e29_35, e29_36, e29_36i, e29_37, e29_40, e29_42, e29_45, e29_46, e29_49, e29_50, e29_51, e29_54, e29_55, e29_56, e29_59, e29_62, e29_66, e29_67, e29_70, e29_73, e29_76, e29_77, e29_79, e29_80, e29_81, e29_82, e29_85, e29_86, e29_89, e29_92, e29_94, e29_95, e29_96, e29_97, e29_100, e29_101, e29_104, e29_105, e29_107, e29_109, e29_112, e29_113, e29_116, e29_117, e29_120, e29_123, e29_125, e29_126, e29_127, e29_130, e29_133, e29_135, e29_136, e29_139, e29_142, e29_144, e29_145, e29_148, e29_151, e29_152, e29_153, e29_156, e29_157, e29_158, e29_159, e29_162, e29_163, e29_166, e29_167, e29_170, e29_172, e29_174, e29_175, e29_178, e29_179, e29_182, e29_185, e29_187, e29_188, e29_189, e29_192, e29_195, e29_197, e29_198, e29_199, e29_202, e29_205, e29_207, e29_208, e29_211, e29_212, e29_213, e29_214, e29_215, e29_216, e29_217, e29_219, e29_220, e29_221, e29_222, e29_223, e29_226, e29_229, e29_231, e29_232, e29_233, e29_235, e29_238, e29_239, e29_242, e29_243, e29_246, e29_249, e29_250, e29_251, e29_254, e29_257, e29_260, k0, hlk, rf_some, true_and, hO.1.1, hO.2.2.2.2.2.1.1, hO.2.2.2.2.2.1.2.2.1, esub, mj_kl, mj_u]
    refine ⟨fun z => absurd z (nI_ge (by omega) (by omega)), fun _ => ⟨fun _ => ?_, fun z => absurd ?_ z⟩⟩
    · have := loop (m - wF w) 0 (by omega) FI AI AL hO hC OX.rfl' (by simp [sm, nI_0]) (by simp [sm, nI_0]) mj_u mj_u
      simpa [mj_u] using this
    · rw [show (7 : Int32) = nI 7 from rfl]
      exact nI_lt (by omega) (by omega)
theorem c_countAll (hS : OrdS K FR q) (hO : HC K FR FI AI AL o t w hs m) (sep : q + 23 < o ∨ o + 22 < q) (sep2 : t + 13 < q ∨ q + 23 < t) {a b : Nat} (ha : a < 32) (hb : b < 32) (hF : wF w ≤ m) (h7 : m - wF w ≤ 7) (hQ : ∀ (FI' AI' : Nat → Nat → Int32) (AL' : Nat → Nat → Int64), HC K (mj_u2 (mj_u2 FR 65 q (some o)) 0 (q + 1) (some t)) FI' AI' AL' o t w hs m → Fr q (q + 23) FI FI' AI AI' AL AL' → FI' 68 q = nI (OT w hs m (m - wF w) (fun _ => false) (fun _ => false) hs (wF w)) → FI' 69 q = nI (OA w hs m a b (m - wF w) (fun _ => false) (fun _ => false) false hs (wF w)) → Q none (n, K, FI', FL, mj_u2 (mj_u2 FR 65 q (some o)) 0 (q + 1) (some t), AI', AL', AR)) : EV sa (d + 14) 28 [.ref q, .ref o, .int (nI a), .int (nI b)] (n, K, FI, FL, FR, AI, AL, AR) Q := by
  have k0 := hS.1
  have hSa : HungS K (mj_u2 FR 65 q (some o)) (q + 1) := hS.2.2.fld (by decide)
  have f64 : mj_u2 FR 65 q (some o) 64 q = some (q + 1) := by rw [mj_u2_1 (by decide)]; exact hS.2.1
  have f64' : mj_u2 (mj_u2 FR 65 q (some o)) 0 (q + 1) (some t) 64 q = some (q + 1) := by rw [mj_u2_1 (by decide)]; exact f64
  have f65' : mj_u2 (mj_u2 FR 65 q (some o)) 0 (q + 1) (some t) 65 q = some o := by rw [mj_u2_1 (by decide), mj_u2_s]
  have hSb : OrdS K (mj_u2 (mj_u2 FR 65 q (some o)) 0 (q + 1) (some t)) q := ⟨k0, f64', hSa.told⟩
  refine n28 k0 ?_
  simp only [e28_0, e28_1, e28_2, e28_5, e28_6, e28_7, e28_10, e28_11, e28_12, e28_15, e28_16, e28_17, e28_20, e28_21, e28_22, e28_25, e28_26, e28_29, e28_30, e28_33, e28_34, e28_37, e28_38, e28_41, e28_44, e28_45, e28_46, e28_47, e28_48, e28_49, e28_52, k0, true_and, f64, rf_some]
  refine ⟨by simp, ?_⟩
  generalize hF1 : mj_u2 (mj_u2 (mj_u2 (mj_u2 FI 66 q (nI a)) 67 q (nI b)) 68 q 0) 69 q 0 = F1
  have eF : ∀ z, z ≠ q → ∀ f, F1 f z = FI f z := fun z hz f => by
    rw [← hF1]
    simp only [mj_u2]
    rw [if_neg (fun y => hz y.2), if_neg (fun y => hz y.2), if_neg (fun y => hz y.2), if_neg (fun y => hz y.2)]
  have v66 : F1 66 q = nI a := by rw [← hF1]; simp [mj_u2]
  have v67 : F1 67 q = nI b := by rw [← hF1]; simp [mj_u2]
  have v68 : F1 68 q = 0 := by rw [← hF1]; simp [mj_u2]
  have v69 : F1 69 q = 0 := by rw [← hF1]; simp [mj_u2]
  have hO1 : HC K (mj_u2 FR 65 q (some o)) F1 AI AL o t w hs m := (hO.fld (by decide) (Or.inl (by decide))).fx (eF o (by omega)) (eF t (by omega))
  refine C_hangAs hSa hO1 (by omega) (by omega) fun F2 A2 b1 b2 b3 b4 => ?_
  have tx2 : TX F1 F2 AI A2 AL AL (q + 1) := b3.toTX b4
  simp only [tl_none, e28_0, e28_1, e28_2, e28_5, e28_6, e28_7, e28_10, e28_11, e28_12, e28_15, e28_16, e28_17, e28_20, e28_21, e28_22, e28_25, e28_26, e28_29, e28_30, e28_33, e28_34, e28_37, e28_38, e28_41, e28_44, e28_45, e28_46, e28_47, e28_48, e28_49, e28_52, k0, true_and, f64', rf_some, b2.1.1, b2.2.2.2.2.2.1.2.2.1]
  refine ⟨by simp, C_cutTo (m' := wF w) b1 hF fun F3 A3 c1 c2 c3 => ?_⟩
  have tx3 : TX F2 F3 A2 A3 AL AL (q + 1) := c2.toTX (c3.wide (by omega) (by omega))
  have hO3 := b2.fr tx3.toFr (by omega) (by omega)
  have x66 : F3 66 q = nI a := by rw [tx3.1 66 q (by omega), tx2.1 66 q (by omega)]; exact v66
  have x67 : F3 67 q = nI b := by rw [tx3.1 67 q (by omega), tx2.1 67 q (by omega)]; exact v67
  have x68 : F3 68 q = 0 := by rw [tx3.1 68 q (by omega), tx2.1 68 q (by omega)]; exact v68
  have x69 : F3 69 q = 0 := by rw [tx3.1 69 q (by omega), tx2.1 69 q (by omega)]; exact v69
  simp only [tl_none, e28_0, e28_1, e28_2, e28_5, e28_6, e28_7, e28_10, e28_11, e28_12, e28_15, e28_16, e28_17, e28_20, e28_21, e28_22, e28_25, e28_26, e28_29, e28_30, e28_33, e28_34, e28_37, e28_38, e28_41, e28_44, e28_45, e28_46, e28_47, e28_48, e28_49, e28_52]
  refine ⟨by simp, ?_⟩
  have := c_stickUp (sa := sa) (d := d + 7 - (m - wF w)) (n := n) (FL := FL) (AR := AR) (Q := fun v μ => WP sa (EV sa (d + 13)) 28 Q 0 0 52 [.ref q, .ref o, .int (nI a), .int (nI b)] (v.toList ++ []) μ) hSb f65' sep sep2 ha hb hF h7 (m - wF w) (dp := 0) (io := false) (Nat.zero_add _) hO3 c1 x66 x67 Mk.zero Mk.zero fun F4 A4 L4 e1 e2 e3 e4 e5 => by
    simp only [tl_none, e28_0, e28_1, e28_2, e28_5, e28_6, e28_7, e28_10, e28_11, e28_12, e28_15, e28_16, e28_17, e28_20, e28_21, e28_22, e28_25, e28_26, e28_29, e28_30, e28_33, e28_34, e28_37, e28_38, e28_41, e28_44, e28_45, e28_46, e28_47, e28_48, e28_49, e28_52]
    refine hQ F4 A4 L4 e1 (fun z hz => ?_) (by rw [e4, x68, Int32.zero_add]) (by rw [e5, x69, Int32.zero_add])
    have r1 := e3.toFr z hz
    have r2 := tx3.toFr.wide (lo' := q) (hi' := q + 23) (by omega) (by omega) z hz
    have r3 := tx2.toFr.wide (lo' := q) (hi' := q + 23) (by omega) (by omega) z hz
    exact ⟨fun f => by rw [r1.1, r2.1, r3.1, eF z (by omega)], by rw [r1.2.1, r2.2.1, r3.2.1], by rw [r1.2.2, r2.2.2, r3.2.2]⟩
  rw [show d + 7 - (m - wF w) + (m - wF w) + 6 = d + 13 by omega] at this
  exact this
end
