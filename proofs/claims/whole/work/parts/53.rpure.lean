/-! ## rows of bills -/
def mvp (w : Wl) (hs : Nat → Hg) (m i : Nat) : Bool := mayAt w hs m (i / 32) (i % 32)
def pushM (w : Wl) (hs : Nat → Hg) (m i : Nat) (r : Int32) : Nat → Hg := puth hs m (i / 32, i % 32 % wW w, i % 32 / wW w, r)
def mxm (f : Nat → Nat) : Nat → Nat
  | 0 => 0
  | n + 1 => max (mxm f n) (f n)
/-- the number of rows of up to so many bills -/
def NRw (w : Wl) : Nat → (Nat → Hg) → Nat → Nat
  | 0, _, _ => 0
  | f + 1, hs, m => sm (fun i => if mvp w hs m i then 1 + NRw w f (pushM w hs m i (-2)) (m + 1) else 0) (32 * wNB w)
/-- the length of the longest -/
def LRw (w : Wl) : Nat → (Nat → Hg) → Nat → Nat
  | 0, _, _ => 0
  | f + 1, hs, m => mxm (fun i => if mvp w hs m i then 1 + LRw w f (pushM w hs m i (-2)) (m + 1) else 0) (32 * wNB w)
theorem sm_mono (f : Nat → Nat) {a b : Nat} (h : a ≤ b) : sm f a ≤ sm f b := by
  induction b with
  | zero => rw [Nat.le_zero.mp h]; exact Nat.le_refl _
  | succ b ih =>
    rcases Nat.lt_or_ge b a with q | q
    · rw [show a = b + 1 by omega]; exact Nat.le_refl _
    · exact Nat.le_trans (ih q) (by simp only [sm]; omega)
theorem mxm_le {f : Nat → Nat} {c : Nat} (h : ∀ k, f k ≤ c) : ∀ n, mxm f n ≤ c
  | 0 => Nat.zero_le _
  | n + 1 => Nat.max_le.mpr ⟨mxm_le h n, h n⟩
theorem LRw_le (w : Wl) : ∀ f hs m, LRw w f hs m ≤ f
  | 0, _, _ => Nat.le_refl _
  | f + 1, hs, m => mxm_le (fun i => by
    split
    · have := LRw_le w f (pushM w hs m i (-2)) (m + 1); omega
    · omega) _
def mnm (f : Nat → Nat) (top : Nat) : Nat → Nat
  | 0 => top
  | n + 1 => min (mnm f top n) (f n)
/-- the shortest row to a goal; one more than allowed if there is none -/
def SRw (w : Wl) (goal : (Nat → Hg) → Nat → Bool) (r : Int32) : Nat → (Nat → Hg) → Nat → Nat
  | 0, hs, m => if goal hs m then 0 else 1
  | f + 1, hs, m => if goal hs m then 0 else mnm (fun i => if mvp w hs m i then 1 + SRw w goal r f (pushM w hs m i r) (m + 1) else f + 2) (f + 2) (32 * wNB w)
/-- whether who began can bring it about -/
def WNw (w : Wl) : Nat → Bool → (Nat → Hg) → Nat → Bool
  | 0, own, hs, m => !own && isFullP w hs m
  | f + 1, own, hs, m => ex (fun i => mvp w hs m i && (WNw w f (!own) (pushM w hs m i (-2)) (m + 1) == own)) (32 * wNB w) == own
theorem mnm_le_top (f : Nat → Nat) (top : Nat) : ∀ n, mnm f top n ≤ top
  | 0 => Nat.le_refl _
  | n + 1 => Nat.le_trans (Nat.min_le_left _ _) (mnm_le_top f top n)
theorem mnm_ge {f : Nat → Nat} {top c : Nat} (ht : c ≤ top) : ∀ {n}, (∀ k, k < n → c ≤ f k) → c ≤ mnm f top n
  | 0, _ => ht
  | n + 1, h => by
    have h1 := mnm_ge (f := f) ht (n := n) (fun k hk => h k (by omega))
    have h2 := h n (by omega)
    simp only [mnm]
    omega
theorem mnm_min {f g : Nat → Nat} {a b : Nat} (hab : a ≤ b) : ∀ {n}, (∀ k, k < n → g k = min a (f k)) → mnm g a n = min a (mnm f b n)
  | 0, _ => by simp only [mnm]; omega
  | n + 1, h => by
    simp only [mnm]
    rw [mnm_min hab (fun k hk => h k (by omega)), h n (by omega)]
    omega
theorem mnm_congr {f g : Nat → Nat} {a : Nat} : ∀ {n}, (∀ k, k < n → f k = g k) → mnm f a n = mnm g a n
  | 0, _ => rfl
  | n + 1, h => by simp only [mnm]; rw [mnm_congr (fun k hk => h k (by omega)), h n (by omega)]
theorem mnm_mono (f : Nat → Nat) (top : Nat) {a b : Nat} (h : a ≤ b) : mnm f top b ≤ mnm f top a := by
  induction b with
  | zero => rw [Nat.le_zero.mp h]; exact Nat.le_refl _
  | succ b ih =>
    rcases Nat.lt_or_ge b a with q | q
    · rw [show a = b + 1 by omega]; exact Nat.le_refl _
    · exact Nat.le_trans (by simp only [mnm]; omega) (ih q)
theorem SRw_le (w : Wl) (goal : (Nat → Hg) → Nat → Bool) (r : Int32) : ∀ f hs m, SRw w goal r f hs m ≤ f + 1
  | 0, hs, m => by simp only [SRw]; split <;> omega
  | f + 1, hs, m => by
    simp only [SRw]
    split
    · omega
    · exact mnm_le_top _ _ _
/-- a search that may go less far -/
theorem SRw_cut (w : Wl) (goal : (Nat → Hg) → Nat → Bool) (r : Int32) : ∀ f g hs m, f ≤ g → SRw w goal r f hs m = min (f + 1) (SRw w goal r g hs m)
  | 0, 0, hs, m, _ => by simp only [SRw]; split <;> omega
  | 0, g + 1, hs, m, _ => by
    simp only [SRw]
    split
    · omega
    · have := mnm_ge (f := fun i => if mvp w hs m i then 1 + SRw w goal r g (pushM w hs m i r) (m + 1) else g + 2) (top := g + 2) (c := 1) (by omega) (n := 32 * wNB w) (fun k _ => by split <;> omega)
      omega
  | f + 1, 0, hs, m, h => by omega
  | f + 1, g + 1, hs, m, h => by
    simp only [SRw]
    split
    · omega
    · refine mnm_min (by omega) fun k _ => ?_
      split
      · rw [SRw_cut w goal r f g (pushM w hs m k r) (m + 1) (by omega)]
        omega
      · omega
theorem letr_congr {w : Wl} {hs hs' : Nat → Hg} {m c : Nat} (h : ∀ k, k < m → hs k = hs' k) : letr w hs m c = letr w hs' m c := by
  unfold letr
  rw [tp_congr h]
  cases e : tp w hs' m c with
  | none => rfl
  | some k => simp only [Option.map_some]; rw [h k (tp_lt e).1]
theorem HC.congr {K : Nat → Nat × Nat} {FR : Nat → Nat → Option Nat} {FI AI : Nat → Nat → Int32} {AL : Nat → Nat → Int64} {h t m : Nat} {w : Wl} {hs hs' : Nat → Hg} (hC : HC K FR FI AI AL h t w hs m) (e : ∀ k, k < m → hs k = hs' k) : HC K FR FI AI AL h t w hs' m := by
  obtain ⟨hH, hT, ht, hw, hTR, ⟨r1, r2, r3, r4, r5⟩, hL, sep⟩ := hC
  refine ⟨hH, hT, ht, hw, hTR, ⟨r1, r2, r3, ?_, fun k hk => ?_⟩, ?_, sep⟩
  · rw [r4]
    congr 1
    exact ct_congr fun k hk => by rw [e k hk]
  · obtain ⟨g1, g2, g3, g4, g5, g6⟩ := r5 k hk
    rw [← e k hk]
    exact ⟨g1, g2, g3, g4, g5, g6.congr fun c _ => by rw [tp_congr e]⟩
  · rcases hL with z | ⟨z1, z2⟩
    · exact Or.inl z
    · refine Or.inr ⟨z1, fun y hy => (z2 y hy).congr fun x _ => ?_⟩
      unfold rowf
      rw [letr_congr e]
theorem mvp_on {w : Wl} {hs : Nat → Hg} {m i : Nat} (hb : i / 32 < wNB w) (h : mvp w hs m i = true) : onW w (i / 32) (i % 32 % wW w) (i % 32 / wW w) ∧ m ≠ 30 := by
  unfold mvp mayAt at h
  obtain ⟨h1, h2⟩ := Bool.and_eq_true_iff.mp h
  simp only [onAt, decide_eq_true_eq] at h1
  refine ⟨⟨hb, h1.1, h1.2⟩, fun e => ?_⟩
  subst e
  simp [may, could] at h2
theorem full_mvp {w : Wl} {hs : Nat → Hg} {m : Nat} (hw : wOK w) : isFullP w hs m = true ↔ ∀ i, i < 32 * wNB w → mvp w hs m i = false := by
  have h32 : wW w * wH w ≤ 32 := Nat.mul_le_mul hw.1.2 hw.2.1.2
  have hW : 0 < wW w := by have := hw.1.1; omega
  unfold isFullP
  rw [Bool.not_eq_true', ex_false]
  constructor
  · intro q i hi
    have h1 := ex_false.mp (q (i / 32) (by omega))
    by_cases z : i % 32 < wW w * wH w
    · exact h1 (i % 32) z
    · unfold mvp mayAt onAt
      have hb := (hw.2.2.2.2.2.2.1 (i / 32) (by omega)).2.2.1.1
      have : wH w ≤ i % 32 / wW w := (Nat.le_div_iff_mul_le hW).mpr (by rw [Nat.mul_comm]; omega)
      rw [decide_eq_false (by omega), Bool.false_and]
  · intro q b hb
    rw [ex_false]
    intro c hc
    have := q (32 * b + c) (by omega)
    unfold mvp at this
    rwa [show (32 * b + c) / 32 = b by omega, show (32 * b + c) % 32 = c by omega] at this
