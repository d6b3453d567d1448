/-! ## the law's walk -/
section
variable {sa : Nat → Nat} {d n t h m : Nat} {Q : mj_Q} {K : Nat → Nat × Nat} {FI : Nat → Nat → Int32} {FL : Nat → Nat → Int64} {FR : Nat → Nat → Option Nat} {AI : Nat → Nat → Int32} {AL : Nat → Nat → Int64} {AR : Nat → Nat → Option Nat} {w : Wl} {hs : Nat → Hg}
variable {x o q a : Nat} {P : PG}
theorem InvC.low {n' : Nat} {K' : Nat → Nat × Nat} {FI' : Nat → Nat → Int32} {FL' : Nat → Nat → Int64} {FR' : Nat → Nat → Option Nat} {AI' : Nat → Nat → Int32} {AL' : Nat → Nat → Int64} (hI : InvC x P (n, K, FI, FL, FR, AI, AL, AR)) (hK : ∀ a, x ≤ a → a ≤ x + 119 → K' a = K a) (cell : ∀ a, a ≤ x + 119 → (∀ f, FI' f a = FI f a ∧ FR' f a = FR f a) ∧ AI' a = AI a ∧ AL' a = AL a) : InvC x P (n', K', FI', FL', FR', AI', AL', AR) := by
  obtain ⟨o, h, hS, hC⟩ := hI
  replace hS : CSt K FR AR x o h := hS
  replace hC : CInv x o P K FR AR FI AI AL := hC
  have ho : o = x + 2 ∨ o = x + 30 := by have := hS.2.2.2.2.2.2.2.2.1; omega
  have hS' : CSt K FR' AR x o h := hS.cg (fun _ _ _ => rfl) (fun a _ h2 f => ((cell a h2).1 f).2)
  obtain ⟨b1, b2, b3, b4, b5, b6, b7, b8⟩ := hC.1
  have fx := fun f => ((cell x (by omega)).1 f).1
  have c1 : CInv x o P K FR' AR FI' AI' AL' := hC.keep hS rfl ⟨by rw [(cell (x + 1) (by omega)).2.1]; exact b1, by rw [fx]; exact b2, b3, by rw [fx]; exact b4, by rw [fx]; exact b5, by rw [fx]; exact b6, b7, b8⟩ (fun a ha => ⟨fun f => ((cell a (by omega)).1 f).1, (cell a (by omega)).2.1, (cell a (by omega)).2.2, fun f => ((cell a (by omega)).1 f).2⟩)
  exact ⟨o, h, hS'.cg hK (fun _ _ _ _ => rfl), c1.cgK hS' hK⟩
end
theorem lp_15 : mj_pool 11 15 = some (6, 98, 0) := by decide +kernel
theorem lp_18 : mj_pool 11 18 = some (6, 161, 0) := by decide +kernel
theorem lp_8 : mj_pool 11 8 = some (3, 7, 0) := by decide +kernel
theorem lp_16 : mj_pool 11 16 = some (3, 10, 0) := by decide +kernel
theorem lw_go {cx : LCx} {b N x : Nat} {xs : Nat → Int32} (hC : LC cx) (hb : b < x) (hN : N ≤ 3072) : LG cx 0 0 0 [.ref b, mj_u, mj_u, mj_u, mj_u, mj_u, mj_u] [] (x, fun a => if a = b then (9, N) else (0, 0), fun _ _ => 0, fun _ _ => 0, fun _ _ => none, fun a => if a = b then xs else fun _ => 0, fun _ _ => 0, fun _ _ => none) := by
  refine g_new hC dL_law_0 lp_8 (by decide) (by decide) ?_
  refine g_p hC dL_law_3 rfl rfl ?_
  refine g_call (x := 98) (As := [.ref x]) (r := [.ref x]) hC dL_law_4 (by simp only [mj_iv, lp_15]; rfl) (by simp) ⟨by decide, by decide⟩ ?_
  refine c_cinit rfl rfl rfl rfl rfl rfl rfl rfl (sh_mk _) (by simp [mj_uk]) (fun f => by simp [mj_zf]) (fun K1 FI1 FL1 FR1 AI1 AL1 AR1 hI hKp => ?_)
  refine g_p hC dL_law_7 rfl rfl ?_
  refine g_new hC dL_law_8 lp_16 (by decide) (by decide) ?_
  refine g_p hC dL_law_11 rfl rfl ?_
  refine g_call (x := 161) (As := [.ref (x + 120)]) (r := [.ref (x + 120)]) hC dL_law_12 (by simp only [mj_iv, lp_18]; rfl) (by simp) ⟨by decide, by decide⟩ ?_
  refine c_minit rfl (by simp [mj_uk]) (fun K2 FR2 AI2 hS2 e1 e2 e3 e4 => ?_)
  refine g_p hC dL_law_15 rfl rfl ?_
  refine g_p hC dL_law_16 rfl rfl ?_
  refine g_newl hC dL_law_17 (by decide) (by decide) (by decide) (by decide) ?_
  refine g_p hC dL_law_19 rfl rfl ?_
  refine g_p hC dL_law_20 rfl rfl ?_
  refine g_p hC dL_law_21 rfl rfl ?_
  have kb : K1 b = (9, N) := by rw [(hKp b hb).1]; simp [mj_uk, show b ≠ x by omega]
  have e9 : (Int32.ofInt 1).toNatClampNeg = 1 := by decide
  rw [e9]
  refine lw_loop (b := b) (N := N) (x := x) hC 512 0 P_0 _ _ _ mj_u mj_u (by omega) ⟨?_, ?_, ?_, ⟨?_, hb, hN⟩, ?_, ?_, ?_⟩
  · refine InvC.low hI (fun a h1 h2 => ?_) (fun a h2 => ⟨fun f => ⟨?_, ?_⟩, ?_, ?_⟩)
    · simp only [mj_uk, show a ≠ x + 120 + 13 by omega, if_false]
      rw [e1 a (by omega)]
      simp only [mj_uk, show a ≠ x + 120 by omega, if_false]
    · rw [mj_u2_2 (by omega)]
      simp only [mj_zf, show a ≠ x + 120 by omega, if_false]
    · rw [e2 f a (Or.inl (by omega))]
      simp only [mj_zf, show a ≠ x + 120 by omega, if_false]
    · exact e3 a (by omega)
    · simp only [mj_za, show a ≠ x + 120 + 13 by omega, if_false]
  · show MInv (x + 120) P_0 (x + 120 + 13 + 1) (mj_uk K2 (x + 120 + 13) (4, 1)) FR2 (mj_u2 (mj_zf 0 FI1 (x + 120)) 642 (x + 120) (-1)) AI2 (mj_za (fun _ => 0) AL1 (x + 120 + 13))
    refine ⟨hS2.cg (fun j hj => by simp only [mj_uk, show x + 120 + j ≠ x + 120 + 13 by omega, if_false]) (fun f _ => rfl), ⟨e4, ?_, by decide, ?_, ?_, ?_⟩, by omega, ?_⟩
    · rw [mj_u2_1 (by decide)]; simp [mj_zf, P_0, gZ, nI]
    · rw [mj_u2_1 (by decide)]; simp [mj_zf, P_0, gTr, nI]
    · rw [mj_u2_s]; rfl
    · rw [mj_u2_1 (by decide)]; simp [mj_zf, P_0, gFl, nI]
    · show FR2 643 (x + 120) = none
      rw [e2 643 _ (Or.inr (by decide))]
      simp [mj_zf]
  · exact fun k => ⟨0, by decide, rfl⟩
  · show mj_uk K2 (x + 120 + 13) (4, 1) b = (9, N)
    simp only [mj_uk, show b ≠ x + 120 + 13 by omega, if_false]
    rw [e1 b (by omega)]
    simp only [mj_uk, show b ≠ x + 120 by omega, if_false]
    exact kb
  · show mj_uk K2 (x + 120 + 13) (4, 1) (x + 133) = (4, 1)
    simp [mj_uk]
  · show x + 134 ≤ x + 120 + 13 + 1
    omega
  · exact ⟨by decide, by decide⟩
