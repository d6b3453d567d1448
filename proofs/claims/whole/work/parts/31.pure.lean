/-! ## the wall, purely -/
abbrev Wl : Type := (Nat × Nat × Nat × Bool) × (Nat × Nat × Nat × Nat) × ((Nat → Nat) × (Nat → Nat) × (Nat → Nat)) × ((Nat → Nat) × (Nat → Nat → Nat)) × ((Nat → Nat) × (Nat → Nat → Nat))
def wW (w : Wl) : Nat := w.1.1
def wH (w : Wl) : Nat := w.1.2.1
def wL (w : Wl) : Nat := w.1.2.2.1
def wB (w : Wl) : Bool := w.1.2.2.2
def wNB (w : Wl) : Nat := w.2.1.1
def wNR (w : Wl) : Nat := w.2.1.2.1
def wNW (w : Wl) : Nat := w.2.1.2.2.1
def wF (w : Wl) : Nat := w.2.1.2.2.2
def wK (w : Wl) : Nat → Nat := w.2.2.1.1
def wBW (w : Wl) : Nat → Nat := w.2.2.1.2.1
def wBH (w : Wl) : Nat → Nat := w.2.2.1.2.2
def wTL (w : Wl) : Nat → Nat := w.2.2.2.1.1
def wTX (w : Wl) : Nat → Nat → Nat := w.2.2.2.1.2
def wWL (w : Wl) : Nat → Nat := w.2.2.2.2.1
def wWT (w : Wl) : Nat → Nat → Nat := w.2.2.2.2.2
abbrev Hg : Type := Nat × Nat × Nat × Int32
def gB (g : Hg) : Nat := g.1
def gX (g : Hg) : Nat := g.2.1
def gY (g : Hg) : Nat := g.2.2.1
def gR (g : Hg) : Int32 := g.2.2.2
def cov (w : Wl) (b x y c : Nat) : Bool := decide (x ≤ c % wW w ∧ c % wW w < x + wBW w b ∧ y ≤ c / wW w ∧ c / wW w < y + wBH w b)
def covg (w : Wl) (g : Hg) (c : Nat) : Bool := cov w (gB g) (gX g) (gY g) c
def tp (w : Wl) (hs : Nat → Hg) : Nat → Nat → Option Nat
  | 0, _ => none
  | n + 1, c => if covg w (hs n) c then some n else tp w hs n c
def ct (p : Nat → Bool) : Nat → Nat
  | 0 => 0
  | n + 1 => ct p n + (if p n then 1 else 0)
def ex (p : Nat → Bool) : Nat → Bool
  | 0 => false
  | n + 1 => ex p n || p n
theorem ct_le (p : Nat → Bool) : ∀ n, ct p n ≤ n
  | 0 => Nat.le_refl _
  | n + 1 => by have := ct_le p n; simp only [ct]; split <;> omega
theorem ct_mono (p : Nat → Bool) {m n : Nat} (h : m ≤ n) : ct p m ≤ ct p n := by
  induction n with
  | zero => rw [Nat.le_zero.mp h]; exact Nat.le_refl _
  | succ n ih =>
    rcases Nat.lt_or_ge n m with q | q
    · rw [show m = n + 1 by omega]; exact Nat.le_refl _
    · exact Nat.le_trans (ih q) (by simp only [ct]; omega)
theorem ct_congr {p q : Nat → Bool} : ∀ {n : Nat}, (∀ k, k < n → p k = q k) → ct p n = ct q n
  | 0, _ => rfl
  | n + 1, h => by simp only [ct]; rw [ct_congr (fun k hk => h k (by omega)), h n (by omega)]
theorem ex_true {p : Nat → Bool} : ∀ {n : Nat}, ex p n = true ↔ ∃ k, k < n ∧ p k = true
  | 0 => by simp [ex]
  | n + 1 => by
    simp only [ex, Bool.or_eq_true, ex_true]
    constructor
    · rintro (⟨k, h1, h2⟩ | h)
      · exact ⟨k, by omega, h2⟩
      · exact ⟨n, by omega, h⟩
    · rintro ⟨k, h1, h2⟩
      rcases Nat.lt_or_ge k n with q | q
      · exact Or.inl ⟨k, q, h2⟩
      · exact Or.inr (by rw [show n = k by omega]; exact h2)
theorem ex_false {p : Nat → Bool} {n : Nat} : ex p n = false ↔ ∀ k, k < n → p k = false := by
  rw [← Bool.not_eq_true, ex_true]
  constructor
  · intro h k hk
    cases e : p k with
    | false => rfl
    | true => exact absurd ⟨k, hk, e⟩ h
  · rintro h ⟨k, h1, h2⟩
    rw [h k h1] at h2
    cases h2
theorem ex_congr {p q : Nat → Bool} {n : Nat} (h : ∀ k, k < n → p k = q k) : ex p n = ex q n := by
  induction n with
  | zero => rfl
  | succ n ih => simp only [ex]; rw [ih (fun k hk => h k (by omega)), h n (by omega)]
def lies (w : Wl) (hs : Nat → Hg) (n b x y : Nat) (hang : Bool) : Nat := ct (fun k => ex (fun c => cov w b x y c && (if hang then covg w (hs k) c else tp w hs n c == some k)) 32) n
def lastHangs (w : Wl) (hs : Nat → Hg) (n : Nat) : Bool := ex (fun k => wK w (gB (hs k)) == 3) n
def letr (w : Wl) (hs : Nat → Hg) (n c : Nat) : Option Nat := (tp w hs n c).map (fun k => wTX w (gB (hs k)) (((c / wW w - gY (hs k)) * wBW w (gB (hs k)) + c % wW w - gX (hs k)) % wTL w (gB (hs k))))
def stand (w : Wl) (hs : Nat → Hg) (n v c : Nat) : Bool := decide (c % wW w + wWL w v ≤ wW w) && !(ex (fun i => letr w hs n (c + i) != some (wWT w v i)) (wWL w v))
def reads (w : Wl) (hs : Nat → Hg) (n v : Nat) : Nat := ct (fun c => stand w hs n v c) (wW w * wH w)
def puth (hs : Nat → Hg) (n : Nat) (g : Hg) : Nat → Hg := fun k => if k = n then g else hs k
def makes (w : Wl) (hs : Nat → Hg) (n b x y : Nat) : Bool := decide (n ≠ 30) && ex (fun v => decide (reads w hs n v < reads w (puth hs n (b, x, y, -2)) (n + 1) v)) (wNW w)
def could (w : Wl) (hs : Nat → Hg) (n b x y m : Nat) (hang : Bool) : Bool := decide (n ≠ 30) && !(lastHangs w hs n) && lies w hs n b x y hang == m && (wK w b != 2 || makes w hs n b x y)
def may (w : Wl) (hs : Nat → Hg) (n b x y : Nat) : Bool := could w hs n b x y (wL w + if wK w b = 1 then 1 else 0) (wB w)
/-- what a wall told is like -/
def wOK (w : Wl) : Prop := (2 ≤ wW w ∧ wW w ≤ 8) ∧ (1 ≤ wH w ∧ wH w ≤ 4) ∧ wL w ≤ 4 ∧ wNB w ≤ 4 ∧ wNR w ≤ 3 ∧ wNW w ≤ 6 ∧ (∀ b, b < wNB w → wK w b ≤ 3 ∧ (1 ≤ wBW w b ∧ wBW w b ≤ wW w) ∧ (1 ≤ wBH w b ∧ wBH w b ≤ wH w) ∧ (1 ≤ wTL w b ∧ wTL w b ≤ 8) ∧ ∀ j, j < wTL w b → wTX w b j < 26) ∧ ∀ v, v < wNW w → (1 ≤ wWL w v ∧ wWL w v ≤ 8) ∧ ∀ j, j < wWL w v → wWT w v j < 26
def onW (w : Wl) (b x y : Nat) : Prop := b < wNB w ∧ x + wBW w b ≤ wW w ∧ y + wBH w b ≤ wH w
def gOK (w : Wl) (g : Hg) : Prop := onW w (gB g) (gX g) (gY g)
/-- bits -/
def Mk (m : Int32) (p : Nat → Bool) : Prop := ∀ c, c < 32 → bt m c = p c
theorem Mk.and {m1 m2 : Int32} {p q : Nat → Bool} (h1 : Mk m1 p) (h2 : Mk m2 q) : Mk (m1 &&& m2) (fun c => p c && q c) := fun c hc => by rw [b_and, h1 c hc, h2 c hc]
theorem Mk.or {m1 m2 : Int32} {p q : Nat → Bool} (h1 : Mk m1 p) (h2 : Mk m2 q) : Mk (m1 ||| m2) (fun c => p c || q c) := fun c hc => by rw [b_or, h1 c hc, h2 c hc]
theorem Mk.not {m1 : Int32} {p : Nat → Bool} (h1 : Mk m1 p) : Mk (m1 ^^^ (-1)) (fun c => !p c) := fun c hc => by rw [b_xor, h1 c hc, b_m1 c hc, Bool.xor_true]
theorem Mk.zero : Mk 0 (fun _ => false) := fun c _ => b_0 c
theorem Mk.congr {m : Int32} {p q : Nat → Bool} (h : Mk m p) (e : ∀ c, c < 32 → p c = q c) : Mk m q := fun c hc => (h c hc).trans (e c hc)
theorem Mk.inj {m1 m2 : Int32} {p : Nat → Bool} (h1 : Mk m1 p) (h2 : Mk m2 p) : m1 = m2 := b_ext fun c hc => (h1 c hc).trans (h2 c hc).symm
theorem Mk.eq0 {m : Int32} {p : Nat → Bool} (h : Mk m p) : m = 0 ↔ ex p 32 = false := by
  rw [ex_false]
  constructor
  · intro e k hk
    rw [← h k hk, e, b_0]
  · intro e
    exact Mk.inj h (Mk.zero.congr fun c hc => (e c hc).symm)
theorem Mk.bit {m : Int32} {p : Nat → Bool} (h : Mk m p) {c : Nat} (hc : c < 32) : ((m.toUInt32 >>> ((nI c).toUInt32 &&& Int32.toUInt32 31)).toInt32 &&& 1 = 0) ↔ p c = false := by
  rw [nf_bit m c hc]
  have e : Mk (m &&& ((1 : Int32) <<< (nI c &&& 31))) (fun k => p k && decide (k = c)) := h.and (fun k hk => by
    rw [b_shl c hc 1 hk]
    by_cases q : k = c
    · subst q
      simp
      decide
    · simp [q]
      intro h1
      have h2 : 1 ≤ k - c := by omega
      generalize k - c = j at h2
      unfold bt
      have h3 : (1 : Int32).toBitVec = 1#32 := rfl
      rw [h3]
      simp
      omega)
  rw [e.eq0, ex_false]
  constructor
  · intro q
    have := q c hc
    simpa using this
  · intro q k hk
    by_cases e2 : k = c
    · subst e2; simp [q]
    · simp [e2]
/-- a bill's cells, moved -/
theorem cov_shift {W x bw y bh c : Nat} (hW : 0 < W) (hx : x + bw ≤ W) : (W * y + x ≤ c ∧ (c - (W * y + x)) % W < bw ∧ (c - (W * y + x)) / W < bh) ↔ (x ≤ c % W ∧ c % W < x + bw ∧ y ≤ c / W ∧ c / W < y + bh) := by
  have hX := Nat.mod_lt c hW
  have hc := Nat.div_add_mod c W
  generalize c % W = X at *
  generalize c / W = Y at *
  subst hc
  have dm : ∀ k r, r < W → (W * k + r) % W = r ∧ (W * k + r) / W = k := fun k r hr => by
    rw [Nat.mul_add_mod, Nat.mod_eq_of_lt hr, Nat.mul_add_div hW, Nat.div_eq_of_lt hr]
    exact ⟨rfl, rfl⟩
  constructor
  · rintro ⟨h1, h2, h3⟩
    have hy : y ≤ Y := by
      rcases Nat.lt_or_ge Y y with q | q
      · have h4 : W * (Y + 1) ≤ W * y := Nat.mul_le_mul_left W q
        rw [Nat.mul_add] at h4
        omega
      · exact q
    obtain ⟨k, rfl⟩ := Nat.exists_eq_add_of_le hy
    rw [Nat.mul_add] at h1 h2 h3
    by_cases hxX : x ≤ X
    · rw [show W * y + W * k + X - (W * y + x) = W * k + (X - x) by omega] at h2 h3
      obtain ⟨e1, e2⟩ := dm k (X - x) (by omega)
      rw [e1] at h2
      rw [e2] at h3
      omega
    · cases k with
      | zero => omega
      | succ k =>
        rw [Nat.mul_add W k 1] at h2
        rw [show W * y + (W * k + W * 1) + X - (W * y + x) = W * k + (W + X - x) by omega, (dm k (W + X - x) (by omega)).1] at h2
        omega
  · rintro ⟨h1, h2, h3, h4⟩
    obtain ⟨k, rfl⟩ := Nat.exists_eq_add_of_le h3
    rw [Nat.mul_add, show W * y + W * k + X - (W * y + x) = W * k + (X - x) by omega]
    obtain ⟨e1, e2⟩ := dm k (X - x) (by omega)
    rw [e1, e2]
    omega
/-- the corner of a place is a cell -/
theorem corner_lt {w : Wl} {b x y : Nat} (hw : wOK w) (h : onW w b x y) : wW w * y + x < wW w * wH w ∧ wW w * wH w ≤ 32 := by
  obtain ⟨⟨a1, a2⟩, ⟨a3, a4⟩, -, -, -, -, hb, -⟩ := hw
  obtain ⟨h0, h1, h2⟩ := h
  obtain ⟨-, ⟨b1, b2⟩, ⟨b3, b4⟩, -⟩ := hb b h0
  have e1 : wW w * (y + 1) ≤ wW w * wH w := Nat.mul_le_mul_left _ (by omega)
  have e2 : wW w * wH w ≤ 8 * 4 := Nat.mul_le_mul a2 a4
  rw [Nat.mul_add] at e1
  omega
theorem Mk.cells {w : Wl} {b x y : Nat} {m : Int32} (hw : wOK w) (ho : onW w b x y) (h : Mk m (cov w b 0 0)) : Mk (m <<< (nI (wW w * y + x) &&& 31)) (cov w b x y) := by
  intro c hc
  obtain ⟨c1, c2⟩ := corner_lt hw ho
  have hW : 0 < wW w := by have := hw.1.1; omega
  rw [b_shl _ (by omega) m hc]
  have e : wW w * y + x ≤ c → bt m (c - (wW w * y + x)) = cov w b 0 0 (c - (wW w * y + x)) := fun _ => h _ (by omega)
  have hs := cov_shift (c := c) (y := y) (bh := wBH w b) hW ho.2.1
  by_cases q : wW w * y + x ≤ c
  · rw [e q]
    simp only [cov, q, decide_true, Bool.true_and, Nat.zero_le, Nat.zero_add, true_and, decide_eq_decide]
    simpa [q] using hs
  · simp only [q, decide_false, Bool.false_and]
    symm
    simp only [cov, decide_eq_false_iff_not]
    intro h2
    exact q (hs.mpr h2).1
