def mj_sr : List (String × Nat × String × Nat) := [("CoverTwo$Telling", 51, "wall", 0), ("CoverTwo$Telling", 113, "wide", 6), ("CoverTwo$Telling", 124, "high", 7), ("CoverTwo$Telling", 126, "law", 8), ("CoverTwo$Telling", 128, "hang", 9), ("CoverTwo$Telling", 130, "seen", 10), ("CoverTwo$Telling", 61, "bill", 1), ("CoverTwo$Tokens", 78, "wall", 0), ("CoverTwo$Tokens", 84, "bill", 1), ("CoverTwo$Tokens", 86, "rival", 2), ("CoverTwo$Tokens", 88, "founder", 4), ("CoverTwo$Tokens", 90, "word", 3), ("CoverTwo$Tokens", 92, "paste", 5), ("CoverTwo$Telling", 213, "plain", 14), ("CoverTwo$Telling", 215, "torn", 15), ("CoverTwo$Telling", 217, "wording", 16), ("CoverTwo$Telling", 219, "last", 17), ("CoverTwo$Telling", 152, "text", 11), ("CoverTwo$Telling", 66, "rival", 2), ("CoverTwo$Telling", 167, "sheets", 12), ("CoverTwo$Telling", 71, "word", 3), ("CoverTwo$Telling", 76, "founder", 4), ("CoverTwo$Telling", 224, "at", 18), ("CoverTwo$Telling", 81, "paste", 5), ("CoverTwo$Telling", 199, "by", 13), ("CoverTwo", 304, "there is none such", 19), ("CoverTwoModel", 232, "wall", 0), ("CoverTwoModel", 294, "wide", 6), ("CoverTwoModel", 299, "high", 7), ("CoverTwoModel", 300, "law", 8), ("CoverTwoModel", 301, "hang", 9), ("CoverTwoModel", 303, "seen", 10), ("CoverTwoModel", 234, "bill", 1), ("CoverTwoModel", 236, "rival", 2), ("CoverTwoModel", 238, "founder", 4), ("CoverTwoModel", 240, "word", 3), ("CoverTwoModel", 241, "paste", 5), ("CoverTwoModel", 313, "plain", 14), ("CoverTwoModel", 318, "torn", 15), ("CoverTwoModel", 320, "wording", 16), ("CoverTwoModel", 322, "last", 17), ("CoverTwoModel", 324, "text", 11), ("CoverTwoModel", 334, "sheets", 12), ("CoverTwoModel", 347, "at", 18), ("CoverTwoModel", 368, "by", 13)]
def mj_sl : List Nat := [4, 4, 5, 4, 7, 5, 4, 4, 3, 4, 4, 4, 6, 2, 5, 4, 7, 4, 2, 18]
def mj_sby : List (List Int32) := [[119, 97, 108, 108], [98, 105, 108, 108], [114, 105, 118, 97, 108], [119, 111, 114, 100], [102, 111, 117, 110, 100, 101, 114], [112, 97, 115, 116, 101], [119, 105, 100, 101], [104, 105, 103, 104], [108, 97, 119], [104, 97, 110, 103], [115, 101, 101, 110], [116, 101, 120, 116], [115, 104, 101, 101, 116, 115], [98, 121], [112, 108, 97, 105, 110], [116, 111, 114, 110], [119, 111, 114, 100, 105, 110, 103], [108, 97, 115, 116], [97, 116], [116, 104, 101, 114, 101, 32, 105, 115, 32, 110, 111, 110, 101, 32, 115, 117, 99, 104]]
theorem mj_sr_in : ∀ q ∈ mj_poolL, q.2.1 = 12 → ∃ tx, (mj_R q.1.1, q.1.2, tx, q.2.2.1) ∈ mj_sr := by
  have h : mj_poolL.all (fun q => q.2.1 != 12 || mj_sr.any (fun r => decide (r.1 = mj_R q.1.1) && r.2.1 == q.1.2 && r.2.2.2 == q.2.2.1)) = true := by decide +kernel
  intro q hq h12
  have h1 := List.all_eq_true.mp h q hq
  simp only [h12, bne_self_eq_false, Bool.false_or, List.any_eq_true, Bool.and_eq_true, decide_eq_true_eq, beq_iff_eq] at h1
  obtain ⟨r, h2, ⟨h3, h4⟩, h5⟩ := h1
  exact ⟨r.2.2.1, by rw [← h3, ← h4, ← h5]; exact h2⟩
theorem mj_str_sp {o idx x y : Nat} (h : mj_pool o idx = some (12, x, y)) : ∃ tx, (mj_R o, idx, tx, x) ∈ mj_sr := by
  unfold mj_pool at h
  cases hf : mj_poolL.find? (fun q => q.1.1 == o && q.1.2 == idx) with
  | none => rw [hf] at h; cases h
  | some q =>
    rw [hf] at h
    have h1 := List.find?_some hf
    simp only [Bool.and_eq_true, beq_iff_eq] at h1
    simp only [Option.map_some, Option.some.injEq] at h
    obtain ⟨tx, h2⟩ := mj_sr_in q (List.mem_of_find?_eq_some hf) (by rw [h])
    rw [h1.1, h1.2, h] at h2
    exact ⟨tx, h2⟩
def mj_stat (i : Nat) : Bool := ([41, 42, 86, 96, 97, 167, 170, 179, 180, 181, 275] : List Nat).contains i

def mj_ini (i : Nat) : Bool := (mj_y i).name == "<init>"
/-- what a method may make at most: cells, slots -/
def mj_alL : List (Nat × Nat × Nat) := [(0, 22, 306), (27, 23, 319), (30, 23, 319), (45, 13, 456), (51, 27, 334), (71, 1, 0), (81, 13, 126), (98, 128, 3129), (152, 2, 157), (157, 12, 132), (161, 12, 2918), (205, 16, 313)]
def mj_al (i : Nat) : Nat × Nat := match mj_alL.find? (fun q => q.1 == i) with
  | some q => q.2
  | none => (0, 0)
/-! ## making -/
def mj_zf {α : Type} (d : α) (f : Nat → Nat → α) (n : Nat) : Nat → Nat → α := fun k a => if a = n then d else f k a
def mj_za {α : Type} (d : Nat → α) (f : Nat → Nat → α) (n : Nat) : Nat → Nat → α := fun a => if a = n then d else f a
def mj_uk (K : Nat → Nat × Nat) (n : Nat) (v : Nat × Nat) : Nat → Nat × Nat := fun a => if a = n then v else K a
theorem mj_W.born {D : va_G} {base n : Nat} {U : State} {K : Nat → Nat × Nat} {FI FI' : Nat → Nat → Int32} {FL FL' : Nat → Nat → Int64} {FR FR' : Nat → Nat → Option Nat} {AI AI' : Nat → Nat → Int32} {AL AL' : Nat → Nat → Int64} {AR AR' : Nat → Nat → Option Nat} {H H1 : Heap} {v : Nat × Nat}
    (h : mj_W D base U (n, K, FI, FL, FR, AI, AL, AR) H) (hb : base ≤ H.size) (z : H1.size = H.size + 1) (oq : ∀ q, q < H.size → H1[q]? = H[q]?)
    (e : ∀ q, q ≠ n → (∀ f, FI' f q = FI f q) ∧ (∀ f, FL' f q = FL f q) ∧ (∀ f, FR' f q = FR f q) ∧ AI' q = AI q ∧ AL' q = AL q ∧ AR' q = AR q)
    (hc : mj_cl D U v (fun f => FI' f n) (fun f => FL' f n) (fun f => FR' f n) (AI' n) (AL' n) (AR' n) n H1) : mj_W D base U (n + 1, mj_uk K n v, FI', FL', FR', AI', AL', AR') H1 := by
  have hn : H.size = n := h.1
  refine ⟨by show H1.size = n + 1; omega, fun a h1 h2 => ?_, fun q => ?_⟩
  · by_cases ha : a = n
    · omega
    · simp only [mj_uk, ha, if_false] at h1 h2
      exact h.2.1 a h1 h2
  · show mj_cl D U (mj_uk K n v q) (fun f => FI' f q) (fun f => FL' f q) (fun f => FR' f q) (AI' q) (AL' q) (AR' q) q H1
    by_cases hq : q = n
    · subst hq; simp only [mj_uk, if_true]; exact hc
    · obtain ⟨e1, e2, e3, e4, e5, e6⟩ := e q hq
      simp only [mj_uk, hq, if_false]
      rw [funext e1, funext e2, funext e3, e4, e5, e6]
      by_cases hl : q < H.size
      · exact mj_cl.kept (h.2.2 q) (oq q hl)
      · have h0 : (K q).1 = 0 := by
          rcases Nat.eq_zero_or_pos (K q).1 with h0 | h0
          · exact h0
          · exact absurd (mj_cl.lt (h.2.2 q) (by show (K q).1 ≠ 0; omega)) hl
        simp only [mj_cl, h0]
theorem mj_dok : ∀ ci, ci < 11 → ∀ k, k < mj_N ci → defaultValue (mj_ty ci k) = mj_fv ci k (fun _ => 0) (fun _ => 0) (fun _ => none) := by decide +kernel
section MJN
variable {p : Program} {l : Launch} {e : Env} {R : Room} {s : State} {m : MethodId} {args : Array Value} {below : List Frame} {meth : Method} {c : Code} {H : Heap} {locs : List Loc} {cells slots : Nat} {Q : State → Prop}
variable {cc : ByteArray} {pc : Nat} {ls : Array Slot} {rest : List Value} {D : va_G} {base o idx n a : Nat} {K : Nat → Nat × Nat} {FI : Nat → Nat → Int32} {FL : Nat → Nat → Int64} {FR : Nat → Nat → Option Nat} {AI : Nat → Nat → Int32} {AL : Nat → Nat → Int64} {AR : Nat → Nat → Option Nat} {j : Int32}
theorem mj_newS {A : Nat → Prop} {H0 H1 : Heap} (hS : va_S A H0 H locs) (z : H1.size = H.size + 1) (oq : ∀ q, q < H.size → H1[q]? = H[q]?) : va_S A H0 H1 locs := ⟨Nat.le_trans hS.1 (by omega), fun x h1 h2 => (oq x (Nat.lt_of_lt_of_le h1 hS.1)).trans (hS.2.1 x h1 h2), hS.2.2⟩
theorem mj_newc (C : mj_C p s m args c cc D o) (hW : mj_W D base s (n, K, FI, FL, FR, AI, AL, AR) H) (hS : va_S (fun q => base ≤ q) s.heap H locs) (hbs : base ≤ s.heap.size) {ci y : Nat} (hp : mj_pool o idx = some (3, ci, y)) (hcells : cells + 1 ≤ R.cells) (hslots : slots + mj_N ci ≤ R.slots) (hd : decode cc pc = .ok (.new idx, 3))
    (kk : ∀ H1 : Heap, mj_W D base s (n + 1, mj_uk K n (1, ci), mj_zf 0 FI n, mj_zf 0 FL n, mj_zf none FR n, AI, AL, AR) H1 → va_S (fun q => base ≤ q) s.heap H1 locs → W p l e R s m args below meth c H1 locs (cells + 1) (slots + mj_N ci) Q (F0 m (pc + 3) ls (.ref n :: rest))) : W p l e R s m args below meth c H locs cells slots Q (F0 m pc ls rest) := by
  obtain ⟨hx, hb, hown, hts, -, -, hK⟩ := C
  obtain ⟨hci, w1, w2, w3⟩ := mj_pool_sp hp
  obtain ⟨o1, o2, o3, -, -⟩ := mj_cok_all hci
  have hKn := hK.1 ci _ o1
  refine W.newcK hx hb hown (hts _ w1) (hts _ w2) (hts _ w3) rfl hd hcells hslots hKn.2.1 hW.1 fun H1 kC hkC e1 z1 oq1 => ?_
  have hn : H.size = n := hW.1
  refine kk H1 (mj_W.born hW (Nat.le_trans hbs hS.1) (by rw [hn]; exact z1) (by rw [hn]; exact oq1) (fun q hq => ⟨fun _ => by simp [mj_zf, hq], fun _ => by simp [mj_zf, hq], fun _ => by simp [mj_zf, hq], rfl, rfl, rfl⟩) ?_) (mj_newS hS (by rw [hn]; exact z1) (by rw [hn]; exact oq1))
  simp only [mj_cl]
  refine ⟨hci, (u_born (mj_ty ci) hts o2 hKn hkC e1 o3).to (fun k hk => ?_)⟩
  rw [mj_dok ci hci k hk]
  simp [mj_zf]
set_option maxRecDepth 100000 in
theorem mj_w_ai : Cond.arrayClass .int ∈ lw_tbl := by decide +kernel
set_option maxRecDepth 100000 in
theorem mj_w_al : Cond.arrayClass .long ∈ lw_tbl := by decide +kernel
set_option maxRecDepth 100000 in
theorem mj_w_ab : Cond.arrayClass .byte ∈ lw_tbl := by decide +kernel
theorem mj_newi (C : mj_C p s m args c cc D o) (hW : mj_W D base s (n, K, FI, FL, FR, AI, AL, AR) H) (hS : va_S (fun q => base ≤ q) s.heap H locs) (hbs : base ≤ s.heap.size) (hj : ¬ j < 0) (hj2 : j.toNatClampNeg ≤ 10000) (hcells : cells + 1 ≤ R.cells) (hslots : slots + j.toNatClampNeg ≤ R.slots) (hd : decode cc pc = .ok (.newarray .int, 2))
    (kk : ∀ H1 : Heap, mj_W D base s (n + 1, mj_uk K n (2, j.toNatClampNeg), FI, FL, FR, mj_za (fun _ => 0) AI n, AL, AR) H1 → va_S (fun q => base ≤ q) s.heap H1 locs → W p l e R s m args below meth c H1 locs (cells + 1) (slots + j.toNatClampNeg) Q (F0 m (pc + 2) ls (.ref n :: rest))) : W p l e R s m args below meth c H locs cells slots Q (F0 m pc ls (.int j :: rest)) := by
  obtain ⟨hx, hb, hown, hts, -, -, hK⟩ := C
  have hn : H.size = n := hW.1
  refine W.newaK (atype := .int) hx hb (hts _ (mj_gw_in mj_w_ai rfl)) rfl hd rfl hj rfl (by show _ * 4 ≤ _; omega) hcells hslots hn fun H1 cA e1 z1 oq1 hA => ?_
  refine kk H1 (mj_W.born hW (Nat.le_trans hbs hS.1) (by rw [hn]; exact z1) (by rw [hn]; exact oq1) (fun q hq => ⟨fun _ => rfl, fun _ => rfl, fun _ => rfl, by funext y; simp [mj_za, hq], rfl, rfl⟩) ?_) (mj_newS hS (by rw [hn]; exact z1) (by rw [hn]; exact oq1))
  simp only [mj_cl]
  refine ⟨cA, hA, e1.trans ?_⟩
  simp [mj_za, newarray.typeOf, defaultValue]
theorem mj_newb (C : mj_C p s m args c cc D o) (hW : mj_W D base s (n, K, FI, FL, FR, AI, AL, AR) H) (hS : va_S (fun q => base ≤ q) s.heap H locs) (hbs : base ≤ s.heap.size) (hj : ¬ j < 0) (hj2 : j.toNatClampNeg ≤ 10000) (hcells : cells + 1 ≤ R.cells) (hslots : slots + j.toNatClampNeg ≤ R.slots) (hd : decode cc pc = .ok (.newarray .byte, 2))
    (kk : ∀ H1 : Heap, mj_W D base s (n + 1, mj_uk K n (3, j.toNatClampNeg), FI, FL, FR, mj_za (fun _ => 0) AI n, AL, AR) H1 → va_S (fun q => base ≤ q) s.heap H1 locs → W p l e R s m args below meth c H1 locs (cells + 1) (slots + j.toNatClampNeg) Q (F0 m (pc + 2) ls (.ref n :: rest))) : W p l e R s m args below meth c H locs cells slots Q (F0 m pc ls (.int j :: rest)) := by
  obtain ⟨hx, hb, hown, hts, -, -, hK⟩ := C
  have hn : H.size = n := hW.1
  refine W.newaK (atype := .byte) hx hb (hts _ (mj_gw_in mj_w_ab rfl)) rfl hd rfl hj rfl (by show _ * 1 ≤ _; omega) hcells hslots hn fun H1 cA e1 z1 oq1 hA => ?_
  refine kk H1 (mj_W.born hW (Nat.le_trans hbs hS.1) (by rw [hn]; exact z1) (by rw [hn]; exact oq1) (fun q hq => ⟨fun _ => rfl, fun _ => rfl, fun _ => rfl, by funext y; simp [mj_za, hq], rfl, rfl⟩) ?_) (mj_newS hS (by rw [hn]; exact z1) (by rw [hn]; exact oq1))
  simp only [mj_cl]
  refine ⟨cA, hA, e1.trans ?_⟩
  simp [mj_za, newarray.typeOf, defaultValue]
theorem mj_newl (C : mj_C p s m args c cc D o) (hW : mj_W D base s (n, K, FI, FL, FR, AI, AL, AR) H) (hS : va_S (fun q => base ≤ q) s.heap H locs) (hbs : base ≤ s.heap.size) (hj : ¬ j < 0) (hj2 : j.toNatClampNeg ≤ 10000) (hcells : cells + 1 ≤ R.cells) (hslots : slots + j.toNatClampNeg ≤ R.slots) (hd : decode cc pc = .ok (.newarray .long, 2))
    (kk : ∀ H1 : Heap, mj_W D base s (n + 1, mj_uk K n (4, j.toNatClampNeg), FI, FL, FR, AI, mj_za (fun _ => 0) AL n, AR) H1 → va_S (fun q => base ≤ q) s.heap H1 locs → W p l e R s m args below meth c H1 locs (cells + 1) (slots + j.toNatClampNeg) Q (F0 m (pc + 2) ls (.ref n :: rest))) : W p l e R s m args below meth c H locs cells slots Q (F0 m pc ls (.int j :: rest)) := by
  obtain ⟨hx, hb, hown, hts, -, -, hK⟩ := C
  have hn : H.size = n := hW.1
  refine W.newaK (atype := .long) hx hb (hts _ (mj_gw_in mj_w_al rfl)) rfl hd rfl hj rfl (by show _ * 8 ≤ _; omega) hcells hslots hn fun H1 cA e1 z1 oq1 hA => ?_
  refine kk H1 (mj_W.born hW (Nat.le_trans hbs hS.1) (by rw [hn]; exact z1) (by rw [hn]; exact oq1) (fun q hq => ⟨fun _ => rfl, fun _ => rfl, fun _ => rfl, rfl, by funext y; simp [mj_za, hq], rfl⟩) ?_) (mj_newS hS (by rw [hn]; exact z1) (by rw [hn]; exact oq1))
  simp only [mj_cl]
  refine ⟨cA, hA, e1.trans ?_⟩
  simp [mj_za, newarray.typeOf, defaultValue]
end MJN
