/-! ## the class is made -/
section
variable {sa : Nat → Nat} {d n t h m : Nat} {Q : mj_Q} {K : Nat → Nat × Nat} {FI : Nat → Nat → Int32} {FL : Nat → Nat → Int64} {FR : Nat → Nat → Option Nat} {AI : Nat → Nat → Int32} {AL : Nat → Nat → Int64} {AR : Nat → Nat → Option Nat} {w : Wl} {hs : Nat → Hg}
variable {a : Nat}
theorem ToldS.cg {K' : Nat → Nat × Nat} {FR' : Nat → Nat → Option Nat} (h : ToldS K FR a) (hk : ∀ j, j ≤ 13 → K' (a + j) = K (a + j)) (hf : ∀ f, FR' f a = FR f a) : ToldS K' FR' a := by
  have k0 : K' a = K a := hk 0 (by decide)
  unfold ToldS at h ⊢
  rw [k0, hk 1 (by decide), hk 2 (by decide), hk 3 (by decide), hk 4 (by decide), hk 5 (by decide), hk 6 (by decide), hk 7 (by decide), hk 8 (by decide), hk 9 (by decide), hk 10 (by decide), hk 11 (by decide), hk 12 (by decide), hk 13 (by decide), hf 391, hf 392, hf 393, hf 394, hf 395, hf 396, hf 397, hf 398, hf 399, hf 400, hf 401, hf 402, hf 403]
  exact h
theorem HungS.cg {K' : Nat → Nat × Nat} {FR' : Nat → Nat → Option Nat} (h : HungS K FR a) (hk : ∀ j, j ≤ 22 → K' (a + j) = K (a + j)) (hf : ∀ f, FR' f a = FR f a) : HungS K' FR' a := by
  have k0 : K' a = K a := hk 0 (by decide)
  unfold HungS at h ⊢
  rw [k0, hk 15 (by decide), hk 16 (by decide), hk 17 (by decide), hk 18 (by decide), hk 19 (by decide), hk 20 (by decide), hk 21 (by decide), hk 22 (by decide), hf 4, hf 5, hf 6, hf 7, hf 8, hf 9, hf 10, hf 11]
  exact h
theorem c_tinit (al : mj_al 81 = (13, 126)) (ka : K a = (1, 6)) (hQ : ∀ (K' : Nat → Nat × Nat) (FR' : Nat → Nat → Option Nat) (AI' : Nat → Nat → Int32) (AL' : Nat → Nat → Int64), ToldS K' FR' a → (∀ c, c ≤ a → K' c = K c) → (∀ f c, c ≠ a → FR' f c = FR f c) → (∀ c, c ≤ a → AI' c = AI c ∧ AL' c = AL c) → Q none (a + 14, K', FI, FL, FR', AI', AL', AR)) : EV sa (d + 1) 81 [.ref a] (a + 1, K, FI, FL, FR, AI, AL, AR) Q := by
  have u : ∀ (K : Nat → Nat × Nat) (j : Nat) (v : Nat × Nat), mj_uk K (a + (j + 1)) v a = K a := fun K j v => uk_o (by omega)
  have u0 : ∀ (K : Nat → Nat × Nat) (v : Nat × Nat), mj_uk K (a + 1) v a = K a := fun K v => uk_o (by omega)
  refine n81 ka ?_
  simp only [e81_0, e81_1, e81_4, e81_5, e81_6, e81_8, e81_11, e81_12, e81_13, e81_15, e81_18, e81_19, e81_20, e81_22, e81_25, e81_26, e81_27, e81_29, e81_32, e81_33, e81_34, e81_36, e81_39, e81_40, e81_41, e81_43, e81_46, e81_47, e81_49, e81_51, e81_54, e81_55, e81_56, e81_58, e81_61, e81_62, e81_64, e81_66, e81_69, e81_70, e81_72, e81_74, e81_77, e81_78, e81_80, e81_82, e81_85, e81_86, e81_88, e81_90, e81_93, e81_94, e81_96, e81_98, e81_101, al, u, u0, ka, Nat.add_assoc, show (4 : Int32).toNatClampNeg = 4 from rfl, show ¬ ((4 : Int32) < 0) from by decide, show (6 : Int32).toNatClampNeg = 6 from rfl, show ¬ ((6 : Int32) < 0) from by decide, show (16 : Int32).toNatClampNeg = 16 from rfl, show ¬ ((16 : Int32) < 0) from by decide, show (32 : Int32).toNatClampNeg = 32 from rfl, show ¬ ((32 : Int32) < 0) from by decide, Nat.reduceAdd, Nat.reduceLeDiff, List.length_nil, Nat.zero_le, Nat.zero_add, not_false_eq_true, and_true, true_and]
  refine hQ _ _ _ _ ⟨?_, ⟨?_, ?_⟩, ⟨?_, ?_⟩, ⟨?_, ?_⟩, ⟨?_, ?_⟩, ⟨?_, ?_⟩, ⟨?_, ?_⟩, ⟨?_, ?_⟩, ⟨?_, ?_⟩, ⟨?_, ?_⟩, ⟨?_, ?_⟩, ⟨?_, ?_⟩, ⟨?_, ?_⟩, ⟨?_, ?_⟩⟩ (fun c hc => ?_) (fun f c hc => ?_) (fun c hc => ⟨?_, ?_⟩)
  · simp only [u, u0]; exact ka
  · simp [mj_u2]
  · simp [mj_uk]
  · simp [mj_u2]
  · simp [mj_uk]
  · simp [mj_u2]
  · simp [mj_uk]
  · simp [mj_u2]
  · simp [mj_uk]
  · simp [mj_u2]
  · simp [mj_uk]
  · simp [mj_u2]
  · simp [mj_uk]
  · simp [mj_u2]
  · simp [mj_uk]
  · simp [mj_u2]
  · simp [mj_uk]
  · simp [mj_u2]
  · simp [mj_uk]
  · simp [mj_u2]
  · simp [mj_uk]
  · simp [mj_u2]
  · simp [mj_uk]
  · simp [mj_u2]
  · simp [mj_uk]
  · simp [mj_u2]
  · simp [mj_uk]
  · repeat rw [uk_o (by omega)]
  · repeat rw [mj_u2_2 hc]
  · repeat rw [za_o (by omega)]
  · repeat rw [za_o (by omega)]
/-- a Hung is made -/
theorem c_hunginit (al : mj_al 81 = (13, 126)) (al0 : mj_al 0 = (22, 306)) (ka : K a = (1, 0)) (hQ : ∀ (K' : Nat → Nat × Nat) (FI' : Nat → Nat → Int32) (FL' : Nat → Nat → Int64) (FR' : Nat → Nat → Option Nat) (AI' : Nat → Nat → Int32) (AL' : Nat → Nat → Int64), HungS K' FR' a → ToldS K' FR' (a + 1) → FR' 0 a = some (a + 1) → (∀ f, FI' f (a + 1) = 0) → (∀ c, c ≤ a → K' c = K c ∧ (∀ f, FI' f c = FI f c) ∧ (∀ f, FL' f c = FL f c) ∧ AI' c = AI c ∧ AL' c = AL c) → (∀ f c, c < a → FR' f c = FR f c) → Q none (a + 23, K', FI', FL', FR', AI', AL', AR)) : EV sa (d + 2) 0 [.ref a] (a + 1, K, FI, FL, FR, AI, AL, AR) Q := by
  have u : ∀ (K : Nat → Nat × Nat) (j : Nat) (v : Nat × Nat), mj_uk K (a + (j + 1)) v a = K a := fun K j v => uk_o (by omega)
  have u0 : ∀ (K : Nat → Nat × Nat) (v : Nat × Nat), mj_uk K (a + 1) v a = K a := fun K v => uk_o (by omega)
  refine n0 ka ?_
  simp only [e0_0, e0_1, e0_4, e0_5, e0_8, e0_9, al0, al, true_and]
  refine ⟨by simp, by omega, by omega, by simp, Or.inr ⟨by omega, by omega⟩, c_tinit (a := a + 1) al uk_s fun K1 R1 A1 M1 t1 t2 t3 t4 => ?_⟩
  have k1 : K1 a = (1, 0) := by rw [t2 a (by omega), u0]; exact ka
  simp only [tl_none, e0_0, e0_1, e0_4, e0_8, e0_8i, e0_9, e0_12, e0_15, e0_16, e0_18, e0_20, e0_23, e0_24, e0_26, e0_28, e0_31, e0_32, e0_34, e0_36, e0_39, e0_40, e0_42, e0_44, e0_47, e0_48, e0_50, e0_52, e0_55, e0_56, e0_57, e0_59, e0_62, e0_63, e0_64, e0_66, e0_69, e0_70, e0_71, e0_73, e0_76, al0, u, u0, k1, Nat.add_assoc, show (3 : Int32).toNatClampNeg = 3 from rfl, show ¬ ((3 : Int32) < 0) from by decide, show (4 : Int32).toNatClampNeg = 4 from rfl, show ¬ ((4 : Int32) < 0) from by decide, show (30 : Int32).toNatClampNeg = 30 from rfl, show ¬ ((30 : Int32) < 0) from by decide, Nat.reduceAdd, Nat.reduceLeDiff, List.length_nil, Nat.zero_le, Nat.zero_add, not_false_eq_true, and_true, true_and]
  refine hQ _ _ _ _ _ _ ⟨?_, ⟨?_, ?_⟩, ⟨?_, ?_⟩, ⟨?_, ?_⟩, ⟨?_, ?_⟩, ⟨?_, ?_⟩, ⟨?_, ?_⟩, ⟨?_, ?_⟩, ⟨?_, ?_⟩⟩ (t1.cg (fun j hj => ?_) (fun f => ?_)) ?_ (fun f => zf_s) (fun c hc => ⟨?_, fun f => zf_o (by omega), fun f => zf_o (by omega), ?_, ?_⟩) (fun f c hc => ?_)
  · simp only [u, u0]; exact k1
  · simp [mj_u2]
  · simp [mj_uk]
  · simp [mj_u2]
  · simp [mj_uk]
  · simp [mj_u2]
  · simp [mj_uk]
  · simp [mj_u2]
  · simp [mj_uk]
  · simp [mj_u2]
  · simp [mj_uk]
  · simp [mj_u2]
  · simp [mj_uk]
  · simp [mj_u2]
  · simp [mj_uk]
  · simp [mj_u2]
  · simp [mj_uk]
  · repeat rw [uk_o (by omega)]
  · repeat rw [mj_u2_2 (by omega)]
  · simp [mj_u2]
  · repeat rw [uk_o (by omega)]
    rw [t2 c (by omega), uk_o (by omega)]
  · repeat rw [za_o (by omega)]
    exact (t4 c (by omega)).1
  · repeat rw [za_o (by omega)]
    exact (t4 c (by omega)).2
  · repeat rw [mj_u2_2 (by omega)]
    rw [t3 f c (by omega), zf_o (by omega)]
end
