/-! ## the model's wall -/
theorem uk_o {K : Nat → Nat × Nat} {n c : Nat} {v : Nat × Nat} (h : c ≠ n) : mj_uk K n v c = K c := by simp [mj_uk, h]
theorem uk_s {K : Nat → Nat × Nat} {n : Nat} {v : Nat × Nat} : mj_uk K n v n = v := by simp [mj_uk]
theorem za_o {α : Type} {f : Nat → Nat → α} {n c : Nat} {v : Nat → α} (h : c ≠ n) : mj_za v f n c = f c := by simp [mj_za, h]
theorem za_s {α : Type} {f : Nat → Nat → α} {n : Nat} {v : Nat → α} : mj_za v f n n = v := by simp [mj_za]
theorem zf_o {α : Type} {f : Nat → Nat → α} {n c k : Nat} {v : α} (h : c ≠ n) : mj_zf v f n k c = f k c := by simp [mj_zf, h]
theorem zf_s {α : Type} {f : Nat → Nat → α} {n k : Nat} {v : α} : mj_zf v f n k n = v := by simp [mj_zf]
section
variable {sa : Nat → Nat} {d n t h m : Nat} {Q : mj_Q} {K : Nat → Nat × Nat} {FI : Nat → Nat → Int32} {FL : Nat → Nat → Int64} {FR : Nat → Nat → Option Nat} {AI : Nat → Nat → Int32} {AL : Nat → Nat → Int64} {AR : Nat → Nat → Option Nat} {w : Wl} {hs : Nat → Hg}
variable {q E a p : Nat} {T : Nat → Int32} {S : PS}
theorem c_winit (al : mj_al 157 = (12, 132)) (ka : K a = (1, 9)) (hQ : ∀ (K' : Nat → Nat × Nat) (FR' : Nat → Nat → Option Nat) (AI' : Nat → Nat → Int32) (AL' : Nat → Nat → Int64), MWS K' FR' a → (∀ c, c ≤ a → K' c = K c) → (∀ f c, c ≠ a → FR' f c = FR f c) → (∀ c, c ≤ a → AI' c = AI c ∧ AL' c = AL c) → AI' (a + 8) = (fun _ => 0) → Q none (a + 13, K', FI, FL, FR', AI', AL', AR)) : EV sa (d + 1) 157 [.ref a] (a + 1, K, FI, FL, FR, AI, AL, AR) Q := by
  have u : ∀ (K : Nat → Nat × Nat) (j : Nat) (v : Nat × Nat), mj_uk K (a + (j + 1)) v a = K a := fun K j v => uk_o (by omega)
  have u0 : ∀ (K : Nat → Nat × Nat) (v : Nat × Nat), mj_uk K (a + 1) v a = K a := fun K v => uk_o (by omega)
  refine n157 ka ?_
  simp only [e157_0, e157_1, e157_4, e157_5, e157_6, e157_8, e157_11, e157_12, e157_13, e157_15, e157_18, e157_19, e157_20, e157_22, e157_25, e157_26, e157_27, e157_29, e157_32, e157_33, e157_35, e157_37, e157_40, e157_41, e157_43, e157_45, e157_48, e157_49, e157_51, e157_53, e157_56, e157_57, e157_58, e157_60, e157_63, e157_64, e157_66, e157_68, e157_71, e157_72, e157_74, e157_76, e157_79, e157_80, e157_82, e157_84, e157_87, e157_88, e157_90, e157_92, e157_95, al, u, u0, ka, Nat.add_assoc, show (3 : Int32).toNatClampNeg = 3 from rfl, show ¬ ((3 : Int32) < 0) from by decide, show (4 : Int32).toNatClampNeg = 4 from rfl, show ¬ ((4 : Int32) < 0) from by decide, show (6 : Int32).toNatClampNeg = 6 from rfl, show ¬ ((6 : Int32) < 0) from by decide, show (7 : Int32).toNatClampNeg = 7 from rfl, show ¬ ((7 : Int32) < 0) from by decide, show (32 : Int32).toNatClampNeg = 32 from rfl, show ¬ ((32 : Int32) < 0) from by decide, show (48 : Int32).toNatClampNeg = 48 from rfl, show ¬ ((48 : Int32) < 0) from by decide, Nat.reduceAdd, Nat.reduceLeDiff, List.length_nil, Nat.zero_le, Nat.zero_add, not_false_eq_true, and_true, true_and]
  refine hQ _ _ _ _ ⟨?_, ⟨?_, ?_⟩, ⟨?_, ?_⟩, ⟨?_, ?_⟩, ⟨?_, ?_⟩, ⟨?_, ?_⟩, ⟨?_, ?_⟩, ⟨?_, ?_⟩, ⟨?_, ?_⟩, ⟨?_, ?_⟩, ⟨?_, ?_⟩, ⟨?_, ?_⟩, ⟨?_, ?_⟩⟩ (fun c hc => ?_) (fun f c hc => ?_) (fun c hc => ⟨?_, ?_⟩) ?_
  · simp only [u, u0]; exact ka
  · simp [mj_u2]
  · simp [mj_uk]
  · simp [mj_u2]
  · simp [mj_uk]
  · simp [mj_u2]
  · simp [mj_uk]
  · simp [mj_u2]
  · simp [mj_uk]
  · simp [mj_u2]
  · simp [mj_uk]
  · simp [mj_u2]
  · simp [mj_uk]
  · simp [mj_u2]
  · simp [mj_uk]
  · simp [mj_u2]
  · simp [mj_uk]
  · simp [mj_u2]
  · simp [mj_uk]
  · simp [mj_u2]
  · simp [mj_uk]
  · simp [mj_u2]
  · simp [mj_uk]
  · simp [mj_u2]
  · simp [mj_uk]
  · repeat rw [uk_o (by omega)]
  · repeat rw [mj_u2_2 hc]
  · repeat rw [za_o (by omega)]
  · repeat rw [za_o (by omega)]
  · repeat rw [za_o (by omega)]
    exact za_s
theorem c_hinit (al : mj_al 152 = (2, 157)) (ka : K a = (1, 8)) (hQ : ∀ (K' : Nat → Nat × Nat) (FR' : Nat → Nat → Option Nat) (AI' : Nat → Nat → Int32) (AL' : Nat → Nat → Int64), MHS K' FR' a → (∀ c, c ≤ a → K' c = K c) → (∀ f c, c ≠ a → FR' f c = FR f c) → (∀ c, c ≤ a → AI' c = AI c ∧ AL' c = AL c) → AI' (a + 1) = (fun _ => 0) → Q none (a + 3, K', FI, FL, FR', AI', AL', AR)) : EV sa (d + 1) 152 [.ref a] (a + 1, K, FI, FL, FR, AI, AL, AR) Q := by
  have u : ∀ (K : Nat → Nat × Nat) (j : Nat) (v : Nat × Nat), mj_uk K (a + (j + 1)) v a = K a := fun K j v => uk_o (by omega)
  have u0 : ∀ (K : Nat → Nat × Nat) (v : Nat × Nat), mj_uk K (a + 1) v a = K a := fun K v => uk_o (by omega)
  refine n152 ka ?_
  simp only [e152_0, e152_1, e152_4, e152_5, e152_7, e152_9, e152_12, e152_13, e152_15, e152_17, e152_20, al, u, u0, ka, Nat.add_assoc, show (30 : Int32).toNatClampNeg = 30 from rfl, show ¬ ((30 : Int32) < 0) from by decide, show (127 : Int32).toNatClampNeg = 127 from rfl, show ¬ ((127 : Int32) < 0) from by decide, Nat.reduceAdd, Nat.reduceLeDiff, List.length_nil, Nat.zero_le, Nat.zero_add, not_false_eq_true, and_true, true_and]
  refine hQ _ _ _ _ ⟨?_, ⟨?_, ?_⟩, ⟨?_, ?_⟩⟩ (fun c hc => ?_) (fun f c hc => ?_) (fun c hc => ⟨?_, ?_⟩) ?_
  · simp only [u, u0]; exact ka
  · simp [mj_u2]
  · simp [mj_uk]
  · simp [mj_u2]
  · simp [mj_uk]
  · repeat rw [uk_o (by omega)]
  · repeat rw [mj_u2_2 hc]
  · repeat rw [za_o (by omega)]
  · repeat rw [za_o (by omega)]
  · exact za_s
theorem MStS.cg {K' : Nat → Nat × Nat} {FR' : Nat → Nat → Option Nat} (h : MStS K FR q) (hk : ∀ j, j ≤ 12 → K' (q + j) = K (q + j)) (hf : ∀ f, 647 ≤ f → FR' f q = FR f q) : MStS K' FR' q := by
  have k0 : K' q = K q := hk 0 (by decide)
  unfold MStS at h ⊢
  rw [k0, hk 1 (by decide), hk 2 (by decide), hk 3 (by decide), hk 4 (by decide), hk 5 (by decide), hk 6 (by decide), hk 7 (by decide), hk 8 (by decide), hk 9 (by decide), hk 10 (by decide), hk 11 (by decide), hk 12 (by decide), hf 647 (by decide), hf 648 (by decide), hf 649 (by decide), hf 660 (by decide), hf 664 (by decide), hf 665 (by decide), hf 672 (by decide), hf 673 (by decide), hf 674 (by decide), hf 675 (by decide), hf 676 (by decide), hf 680 (by decide)]
  exact h
theorem MWS.cg {K' : Nat → Nat × Nat} {FR' : Nat → Nat → Option Nat} (h : MWS K FR a) (hk : ∀ j, j ≤ 12 → K' (a + j) = K (a + j)) (hf : ∀ f, FR' f a = FR f a) : MWS K' FR' a := by
  have k0 : K' a = K a := hk 0 (by decide)
  unfold MWS at h ⊢
  rw [k0, hk 1 (by decide), hk 2 (by decide), hk 3 (by decide), hk 4 (by decide), hk 5 (by decide), hk 6 (by decide), hk 7 (by decide), hk 8 (by decide), hk 9 (by decide), hk 10 (by decide), hk 11 (by decide), hk 12 (by decide), hf 586, hf 587, hf 588, hf 589, hf 590, hf 591, hf 592, hf 593, hf 594, hf 595, hf 596, hf 597]
  exact h
theorem MHS.cg {K' : Nat → Nat × Nat} {FR' : Nat → Nat → Option Nat} (h : MHS K FR a) (hk : ∀ j, j ≤ 2 → K' (a + j) = K (a + j)) (hf : ∀ f, FR' f a = FR f a) : MHS K' FR' a := by
  have k0 : K' a = K a := hk 0 (by decide)
  unfold MHS at h ⊢
  rw [k0, hk 1 (by decide), hk 2 (by decide), hf 512, hf 513]
  exact h
theorem MInv.move {P P' : PG} {n' : Nat} {K' : Nat → Nat × Nat} {FR' : Nat → Nat → Option Nat} {FI' AI' : Nat → Nat → Int32} {AL' : Nat → Nat → Int64} (hI : MInv q P n K FR FI AI AL) (hn : n ≤ n') (hW : gW P' = gW P) (hK : ∀ c, c < n → K' c = K c) (hR : ∀ f c, c < n → (c ≠ q ∨ (f ≠ 644 ∧ f ≠ 646)) → FR' f c = FR f c) (hF : ∀ f c, c < n → c ≠ q → FI' f c = FI f c) (h666 : FI' 666 q = FI 666 q) (h667 : FI' 667 q = FI 667 q) (hA : ∀ c, c < n → c ≠ q + 1 → c ≠ q + 2 → c ≠ q + 4 → AI' c = AI c) (hL : ∀ c, c < n → AL' c = AL c) (hb : AI' (q + 3) = gT P' ∧ FI' 650 q = nI (gZ P') ∧ gZ P' ≤ 900 ∧ FI' 641 q = nI (gTr P') ∧ FI' 642 q = sp_where P' ∧ FI' 658 q = nI (gFl P')) : MInv q P' n' K' FR' FI' AI' AL' := by
  obtain ⟨h1, -, h3, h4⟩ := hI
  refine ⟨h1.cg (fun j hj => hK _ (by omega)) (fun f hf => hR f q (by omega) (Or.inr (by omega))), hb, by omega, ?_⟩
  rw [hW]
  revert h4
  cases gW P with
  | none =>
    intro h4
    show FR' 643 q = none
    rw [hR 643 q (by omega) (Or.inr (by decide))]
    exact h4
  | some s =>
    rintro ⟨b, ⟨⟨v1, v2, v3, v4, v5, v6, v7, v8⟩, o1, o2⟩, b1, b2, b3, b4, ⟨b5, b6⟩, b7, b8⟩
    refine ⟨b, ⟨⟨?_, v2.cg (fun j hj => hK _ (by omega)) (fun f => hR f b (by omega) (Or.inl (by omega))), v3, v4.fr (fun f => hF f b (by omega) (by omega)) (fun j j1 j2 => hA _ (by omega) (by omega) (by omega) (by omega)), v5.cg (fun j hj => hK _ (by omega)) (fun f => hR f _ (by omega) (Or.inl (by omega))), v6.fr (hA _ (by omega) (by omega) (by omega) (by omega)) (hL _ (by omega)), v7, v8⟩, ?_, ?_⟩, b1, by omega, ?_, b4, ⟨?_, ?_⟩, ?_, ?_⟩
    · exact (h1.cg (K' := K') (FR' := FR') (fun j hj => hK _ (by omega)) (fun f hf => hR f q (by omega) (Or.inr (by omega)))).md
    · rw [hR 643 q (by omega) (Or.inr (by decide))]; exact o1
    · rw [hR 645 q (by omega) (Or.inr (by decide))]; exact o2
    · unfold MSP
      rw [hA (b + 13 + 1) (by omega) (by omega) (by omega) (by omega)]; exact b3
    · rw [h666]; exact b5
    · rw [hA (q + 5) (by omega) (by omega) (by omega) (by omega)]; exact b6
    · rw [h667]; exact b7
    · rw [hA (q + 6) (by omega) (by omega) (by omega) (by omega)]; exact b8
end
