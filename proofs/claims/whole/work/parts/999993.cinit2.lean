/-! ## the class's other things are made -/
section
variable {sa : Nat → Nat} {d n t h m : Nat} {Q : mj_Q} {K : Nat → Nat × Nat} {FI : Nat → Nat → Int32} {FL : Nat → Nat → Int64} {FR : Nat → Nat → Option Nat} {AI : Nat → Nat → Int32} {AL : Nat → Nat → Int64} {AR : Nat → Nat → Option Nat} {w : Wl} {hs : Nat → Hg}
variable {a : Nat}
theorem c_rowinit (al : mj_al 81 = (13, 126)) (al0 : mj_al 0 = (22, 306)) (ali : mj_al 30 = (23, 319)) (ka : K a = (1, 2)) (hQ : ∀ (K' : Nat → Nat × Nat) (FI' : Nat → Nat → Int32) (FL' : Nat → Nat → Int64) (FR' : Nat → Nat → Option Nat) (AI' : Nat → Nat → Int32) (AL' : Nat → Nat → Int64), RowS K' FR' a → (∀ c, c ≤ a → K' c = K c ∧ (∀ f, FI' f c = FI f c) ∧ (∀ f, FL' f c = FL f c) ∧ AI' c = AI c ∧ AL' c = AL c) → (∀ f c, c < a → FR' f c = FR f c) → Q none (a + 24, K', FI', FL', FR', AI', AL', AR)) : EV sa (d + 3) 30 [.ref a] (a + 1, K, FI, FL, FR, AI, AL, AR) Q := by
  refine n30 ka ?_
  simp only [e30_0, e30_1, e30_4, e30_5, e30_8, e30_9, al0, ali, true_and]
  refine ⟨by simp, by omega, by omega, by simp, Or.inr ⟨by omega, by omega⟩, c_hunginit (a := a + 1) al al0 uk_s fun K1 F1 L1 R1 A1 M1 h1 h2 h3 h4 h5 h6 => ?_⟩
  have k1 : K1 a = (1, 2) := by rw [(h5 a (by omega)).1, uk_o (by omega)]; exact ka
  simp only [tl_none, e30_0, e30_1, e30_4, e30_5, e30_8, e30_8i, e30_12, e30_15, k1, true_and]
  refine hQ _ _ _ _ _ _ ⟨k1, ?_, h1.cg (fun _ _ => rfl) (fun f => ?_)⟩ (fun c hc => ⟨?_, fun f => ?_, fun f => ?_, ?_, ?_⟩) (fun f c hc => ?_)
  · simp [mj_u2]
  · repeat rw [mj_u2_2 (by omega)]
  · rw [(h5 c (by omega)).1, uk_o (by omega)]
  · rw [(h5 c (by omega)).2.1, zf_o (by omega)]
  · rw [(h5 c (by omega)).2.2.1, zf_o (by omega)]
  · exact (h5 c (by omega)).2.2.2.1
  · exact (h5 c (by omega)).2.2.2.2
  · repeat rw [mj_u2_2 (by omega)]
    rw [h6 f c (by omega), zf_o (by omega)]
theorem c_ordinit (al : mj_al 81 = (13, 126)) (al0 : mj_al 0 = (22, 306)) (ali : mj_al 27 = (23, 319)) (ka : K a = (1, 1)) (hQ : ∀ (K' : Nat → Nat × Nat) (FI' : Nat → Nat → Int32) (FL' : Nat → Nat → Int64) (FR' : Nat → Nat → Option Nat) (AI' : Nat → Nat → Int32) (AL' : Nat → Nat → Int64), OrdS K' FR' a → (∀ c, c ≤ a → K' c = K c ∧ (∀ f, FI' f c = FI f c) ∧ (∀ f, FL' f c = FL f c) ∧ AI' c = AI c ∧ AL' c = AL c) → (∀ f c, c < a → FR' f c = FR f c) → Q none (a + 24, K', FI', FL', FR', AI', AL', AR)) : EV sa (d + 3) 27 [.ref a] (a + 1, K, FI, FL, FR, AI, AL, AR) Q := by
  refine n27 ka ?_
  simp only [e27_0, e27_1, e27_4, e27_5, e27_8, e27_9, al0, ali, true_and]
  refine ⟨by simp, by omega, by omega, by simp, Or.inr ⟨by omega, by omega⟩, c_hunginit (a := a + 1) al al0 uk_s fun K1 F1 L1 R1 A1 M1 h1 h2 h3 h4 h5 h6 => ?_⟩
  have k1 : K1 a = (1, 1) := by rw [(h5 a (by omega)).1, uk_o (by omega)]; exact ka
  have y : ∀ v, mj_u2 R1 64 a v 64 a = v := fun v => mj_u2_s
  simp only [tl_none, e27_0, e27_1, e27_4, e27_5, e27_8, e27_8i, e27_12, e27_15, e27_16, e27_17, e27_20, e27_23, k1, y, rf_some, true_and]
  refine hQ _ _ _ _ _ _ ⟨k1, ?_, h1.cg (fun _ _ => rfl) (fun f => ?_)⟩ (fun c hc => ⟨?_, fun f => ?_, fun f => ?_, ?_, ?_⟩) (fun f c hc => ?_)
  · simp [mj_u2]
  · repeat rw [mj_u2_2 (by omega)]
  · rw [(h5 c (by omega)).1, uk_o (by omega)]
  · rw [(h5 c (by omega)).2.1, zf_o (by omega)]
  · rw [(h5 c (by omega)).2.2.1, zf_o (by omega)]
  · exact (h5 c (by omega)).2.2.2.1
  · exact (h5 c (by omega)).2.2.2.2
  · repeat rw [mj_u2_2 (by omega)]
    rw [h6 f c (by omega), zf_o (by omega)]
theorem c_tokinit (al : mj_al 71 = (1, 0)) (ka : K a = (1, 5)) (hQ : Q none (a + 2, mj_uk K (a + 1) (3, 0), FI, FL, mj_u2 FR 320 a (some (a + 1)), mj_za (fun _ => 0) AI (a + 1), AL, AR)) : EV sa (d + 1) 71 [.ref a] (a + 1, K, FI, FL, FR, AI, AL, AR) Q := by
  have u0 : ∀ (K : Nat → Nat × Nat) (v : Nat × Nat), mj_uk K (a + 1) v a = K a := fun K v => uk_o (by omega)
  refine n71 ka ?_
  simp only [e71_0, e71_1, e71_4, e71_5, e71_6, e71_8, e71_11, al, u0, ka, Nat.add_assoc, show (0 : Int32).toNatClampNeg = 0 from rfl, show ¬ ((0 : Int32) < 0) from by decide, Nat.reduceAdd, Nat.reduceLeDiff, List.length_nil, Nat.zero_le, Nat.zero_add, not_false_eq_true, and_true, true_and, Nat.le_refl]
  exact hQ
theorem c_telinit (al : mj_al 81 = (13, 126)) (al0 : mj_al 0 = (22, 306)) (alk : mj_al 71 = (1, 0)) (alt : mj_al 51 = (27, 334)) (ka : K a = (1, 4)) (hQ : ∀ (K' : Nat → Nat × Nat) (FI' : Nat → Nat → Int32) (FL' : Nat → Nat → Int64) (FR' : Nat → Nat → Option Nat) (AI' : Nat → Nat → Int32) (AL' : Nat → Nat → Int64), TelS0 K' FR' a (a + 5) → (∀ c, c ≤ a → K' c = K c ∧ (∀ f, FI' f c = FI f c) ∧ (∀ f, FL' f c = FL f c) ∧ AI' c = AI c ∧ AL' c = AL c) → (∀ f c, c < a → FR' f c = FR f c) → Q none (a + 28, K', FI', FL', FR', AI', AL', AR)) : EV sa (d + 3) 51 [.ref a] (a + 1, K, FI, FL, FR, AI, AL, AR) Q := by
  have u : ∀ (K : Nat → Nat × Nat) (j : Nat) (v : Nat × Nat), mj_uk K (a + (j + 1)) v a = K a := fun K j v => uk_o (by omega)
  have u0 : ∀ (K : Nat → Nat × Nat) (v : Nat × Nat), mj_uk K (a + 1) v a = K a := fun K v => uk_o (by omega)
  refine n51 ka ?_
  simp only [e51_0, e51_1, e51_4, e51_5, e51_8, e51_9, alk, alt, true_and]
  refine ⟨by simp, by omega, by omega, by simp, Or.inr ⟨by omega, by omega⟩, c_tokinit (a := a + 1) alk uk_s ?_⟩
  simp only [tl_none, e51_12, e51_15, e51_16, e51_17, e51_19, e51_22, e51_23, e51_24, e51_26, e51_29, e51_30, e51_33, e51_34, alt, al0, u, u0, ka, Nat.add_assoc, show (3 : Int32).toNatClampNeg = 3 from rfl, show ¬ ((3 : Int32) < 0) from by decide, show (4 : Int32).toNatClampNeg = 4 from rfl, show ¬ ((4 : Int32) < 0) from by decide, Nat.reduceAdd, Nat.reduceLeDiff, List.length_nil, Nat.zero_le, Nat.zero_add, not_false_eq_true, and_true, true_and]
  refine ⟨by simp, Or.inr trivial, c_hunginit (a := a + 5) al al0 uk_s fun K1 F1 L1 R1 A1 M1 h1 h2 h3 h4 h5 h6 => ?_⟩
  have k1 : K1 a = (1, 4) := by rw [(h5 a (by omega)).1]; simp only [u, u0]; exact ka
  have y : mj_u2 R1 259 a (some (a + 5)) 259 a = some (a + 5) := mj_u2_s
  have y2 : mj_u2 R1 259 a (some (a + 5)) 0 (a + 5) = some (a + 5 + 1) := by rw [mj_u2_1 (by decide)]; exact h3
  simp only [tl_none, List.nil_append, e51_37, e51_40, e51_41, e51_42, e51_45, e51_48, e51_51, k1, h1.1, y, y2, rf_some, true_and]
  have ro : ∀ f c, c ≠ a → mj_u2 (mj_u2 R1 259 a (some (a + 5))) 260 a (some (a + 5 + 1)) f c = R1 f c := fun f c h => by rw [mj_u2_2 h, mj_u2_2 h]
  refine hQ _ _ _ _ _ _ ⟨k1, ?_, ?_, ⟨?_, ?_⟩, ⟨?_, ?_⟩, ?_, mj_u2_s, h1.cg (fun _ _ => rfl) (fun f => ro f _ (by omega)), h2.cg (fun _ _ => rfl) (fun f => ro f _ (by omega)), (by rw [ro 0 _ (by omega)]; exact h3), Or.inl (by omega)⟩ (fun c hc => ⟨?_, fun f => ?_, fun f => ?_, ?_, ?_⟩) (fun f c hc => ?_)
  · rw [mj_u2_1 (by decide), mj_u2_1 (by decide), h6 256 a (by omega), zf_o (by omega)]; simp [mj_u2]
  · rw [(h5 (a + 1) (by omega)).1]; simp [mj_uk]
  · rw [mj_u2_1 (by decide), mj_u2_1 (by decide), h6 257 a (by omega), zf_o (by omega)]; simp [mj_u2]
  · rw [(h5 (a + 3) (by omega)).1]; simp [mj_uk]
  · rw [mj_u2_1 (by decide), mj_u2_1 (by decide), h6 258 a (by omega), zf_o (by omega)]; simp [mj_u2]
  · rw [(h5 (a + 4) (by omega)).1]; simp [mj_uk]
  · rw [mj_u2_1 (by decide), mj_u2_s]
  · rw [(h5 c (by omega)).1]
    repeat rw [uk_o (by omega)]
  · rw [(h5 c (by omega)).2.1, zf_o (by omega), zf_o (by omega)]
  · rw [(h5 c (by omega)).2.2.1, zf_o (by omega), zf_o (by omega)]
  · rw [(h5 c (by omega)).2.2.2.1, za_o (by omega)]
  · rw [(h5 c (by omega)).2.2.2.2, za_o (by omega), za_o (by omega)]
  · rw [ro f c (by omega), h6 f c (by omega), zf_o (by omega)]
    repeat rw [mj_u2_2 (by omega)]
    rw [zf_o (by omega)]
end
