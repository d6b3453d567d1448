section MJA
variable {p : Program} {l : Launch} {e : Env} {R : Room} {s : State} {m : MethodId} {args : Array Value} {below : List Frame} {meth : Method} {c : Code} {H : Heap} {locs : List Loc} {cells slots : Nat} {Q : State → Prop}
variable {cc : ByteArray} {pc : Nat} {ls : Array Slot} {rest : List Value} {D : va_G} {base o idx n a : Nat} {K : Nat → Nat × Nat} {FI : Nat → Nat → Int32} {FL : Nat → Nat → Int64} {FR : Nat → Nat → Option Nat} {AI : Nat → Nat → Int32} {AL : Nat → Nat → Int64} {AR : Nat → Nat → Option Nat} {j : Int32}
theorem mj_sz (cA : ClassId) (N : Nat) (f : Nat → Value) (h : vp_in j N) : ¬ (j < 0 ∨ (arrV cA N f).slots.size ≤ j.toNatClampNeg) := by rw [arrV_size]; exact h
theorem mj_rd (cA : ClassId) (N : Nat) (f : Nat → Value) (h : vp_in j N) : (arrV cA N f).slots[j.toNatClampNeg]? = some (f j.toNatClampNeg) := arrV_read _ _ (Nat.not_le.mp fun q => h (Or.inr q))
theorem mj_iald (C : mj_C p s m args c cc D o) (hW : mj_W D base s (n, K, FI, FL, FR, AI, AL, AR) H) (hk : (K a).1 = 2 ∨ (K a).1 = 9) (hin : vp_in j (K a).2) (hd : decode cc pc = .ok (.iaload, 1))
    (kk : W p l e R s m args below meth c H locs cells slots Q (F0 m (pc + 1) ls (.int (AI a j.toNatClampNeg) :: rest))) : W p l e R s m args below meth c H locs cells slots Q (F0 m pc ls (.int j :: .ref a :: rest)) := by
  obtain ⟨hx, hb, -⟩ := C
  have hcl := hW.2.2 a
  rcases hk with hk | hk
  · simp only [mj_at, mj_cl, hk] at hcl
    obtain ⟨cA, h1, h2⟩ := hcl
    exact W.iald (v := .int (AI a j.toNatClampNeg)) hx hb h2 (h1 _ _) (fun q => by cases q) (mj_sz _ _ _ hin) (mj_rd _ _ _ hin) rfl rfl hd kk
  · simp only [mj_at, mj_cl, hk] at hcl
    obtain ⟨scr, g1, g2, g3, g4, g5⟩ := hcl
    exact W.iald (v := .int (AI a j.toNatClampNeg)) hx hb g1 g2 g3 (by rw [g4]; exact hin) (g5 _ (Nat.not_le.mp fun q => hin (Or.inr q))) rfl rfl hd kk
theorem mj_bald (C : mj_C p s m args c cc D o) (hW : mj_W D base s (n, K, FI, FL, FR, AI, AL, AR) H) (hk : (K a).1 = 3) (hin : vp_in j (K a).2) (hd : decode cc pc = .ok (.baload, 1))
    (kk : W p l e R s m args below meth c H locs cells slots Q (F0 m (pc + 1) ls (.int (AI a j.toNatClampNeg) :: rest))) : W p l e R s m args below meth c H locs cells slots Q (F0 m pc ls (.int j :: .ref a :: rest)) := by
  obtain ⟨hx, hb, -⟩ := C
  have hcl := hW.2.2 a
  simp only [mj_at, mj_cl, hk] at hcl
  obtain ⟨cA, h1, h2⟩ := hcl
  exact W.bald (v := .int (AI a j.toNatClampNeg)) hx hb h2 (h1 _ _) (fun q => by cases q) (mj_sz _ _ _ hin) (mj_rd _ _ _ hin) rfl rfl hd kk
theorem mj_lald (C : mj_C p s m args c cc D o) (hW : mj_W D base s (n, K, FI, FL, FR, AI, AL, AR) H) (hk : (K a).1 = 4) (hin : vp_in j (K a).2) (hd : decode cc pc = .ok (.laload, 1))
    (kk : W p l e R s m args below meth c H locs cells slots Q (F0 m (pc + 1) ls (.long (AL a j.toNatClampNeg) :: rest))) : W p l e R s m args below meth c H locs cells slots Q (F0 m pc ls (.int j :: .ref a :: rest)) := by
  obtain ⟨hx, hb, -⟩ := C
  have hcl := hW.2.2 a
  simp only [mj_at, mj_cl, hk] at hcl
  obtain ⟨cA, h1, h2⟩ := hcl
  exact W.lald (v := .long (AL a j.toNatClampNeg)) hx hb h2 (h1 _ _) (fun q => by cases q) (mj_sz _ _ _ hin) (mj_rd _ _ _ hin) rfl rfl hd kk
theorem mj_aald (C : mj_C p s m args c cc D o) (hW : mj_W D base s (n, K, FI, FL, FR, AI, AL, AR) H) (hk : (K a).1 = 5) (hin : vp_in j (K a).2) (hd : decode cc pc = .ok (.aaload, 1))
    (kk : W p l e R s m args below meth c H locs cells slots Q (F0 m (pc + 1) ls (va_rf (AR a j.toNatClampNeg) :: rest))) : W p l e R s m args below meth c H locs cells slots Q (F0 m pc ls (.int j :: .ref a :: rest)) := by
  obtain ⟨hx, hb, -⟩ := C
  have hcl := hW.2.2 a
  simp only [mj_at, mj_cl, hk] at hcl
  obtain ⟨cA, h1, h2⟩ := hcl
  exact W.aald (v := va_rf (AR a j.toNatClampNeg)) (ty := .array .int) hx hb h2 (h1 _ _) rfl (fun q => by cases q) (mj_sz _ _ _ hin) (mj_rd _ _ _ hin) rfl rfl hd kk
theorem mj_iast (C : mj_C p s m args c cc D o) (hW : mj_W D base s (n, K, FI, FL, FR, AI, AL, AR) H) (hS : va_S (fun q => base ≤ q) s.heap H locs) {x : Int32} (hk : (K a).1 = 2) (hin : vp_in j (K a).2) (hd : decode cc pc = .ok (.iastore, 1))
    (kk : ∀ (H1 : Heap) (locs1 : List Loc), mj_W D base s (n, K, FI, FL, FR, mj_u2 AI a j.toNatClampNeg x, AL, AR) H1 → va_S (fun q => base ≤ q) s.heap H1 locs1 → W p l e R s m args below meth c H1 locs1 cells slots Q (F0 m (pc + 1) ls rest)) : W p l e R s m args below meth c H locs cells slots Q (F0 m pc ls (.int x :: .int j :: .ref a :: rest)) := by
  obtain ⟨hx, hb, -⟩ := C
  have hcl := hW.2.2 a
  have hba : base ≤ a := hW.2.1 a (by simp [hk]) (by simp [hk])
  simp only [mj_at, mj_cl, hk] at hcl
  obtain ⟨cA, h1, h2⟩ := hcl
  refine W.iast hx hb h2 (h1 _ _) (fun q => by cases q) (mj_sz _ _ _ hin) rfl rfl hd fun H1 e z oq => ?_
  refine kk H1 _ (mj_W.put hW z oq (fun q hq => ⟨fun _ => rfl, fun _ => rfl, fun _ => rfl, ?_, rfl, rfl⟩) ?_) (hS.put z oq hba)
  · funext y; exact mj_u2_1 hq
  · simp only [mj_cl, hk]
    refine ⟨cA, h1, ?_⟩
    rw [e, arrV_store]
    congr 2
    funext q
    by_cases hq : q = j.toNatClampNeg
    · subst hq; simp [updV, mj_u2]
    · simp [updV, mj_u2, hq]
theorem mj_bast (C : mj_C p s m args c cc D o) (hW : mj_W D base s (n, K, FI, FL, FR, AI, AL, AR) H) (hS : va_S (fun q => base ≤ q) s.heap H locs) {x : Int32} (hk : (K a).1 = 3) (hin : vp_in j (K a).2) (hd : decode cc pc = .ok (.bastore, 1))
    (kk : ∀ (H1 : Heap) (locs1 : List Loc), mj_W D base s (n, K, FI, FL, FR, mj_u2 AI a j.toNatClampNeg x.toInt8.toInt32, AL, AR) H1 → va_S (fun q => base ≤ q) s.heap H1 locs1 → W p l e R s m args below meth c H1 locs1 cells slots Q (F0 m (pc + 1) ls rest)) : W p l e R s m args below meth c H locs cells slots Q (F0 m pc ls (.int x :: .int j :: .ref a :: rest)) := by
  obtain ⟨hx, hb, -⟩ := C
  have hcl := hW.2.2 a
  have hba : base ≤ a := hW.2.1 a (by simp [hk]) (by simp [hk])
  simp only [mj_at, mj_cl, hk] at hcl
  obtain ⟨cA, h1, h2⟩ := hcl
  refine W.bast hx hb h2 (h1 _ _) (fun q => by cases q) (mj_sz _ _ _ hin) rfl rfl hd fun H1 e z oq => ?_
  refine kk H1 _ (mj_W.put hW z oq (fun q hq => ⟨fun _ => rfl, fun _ => rfl, fun _ => rfl, ?_, rfl, rfl⟩) ?_) (hS.put z oq hba)
  · funext y; exact mj_u2_1 hq
  · simp only [mj_cl, hk]
    refine ⟨cA, h1, ?_⟩
    rw [e, narrow_byte, arrV_store]
    congr 2
    funext q
    by_cases hq : q = j.toNatClampNeg
    · subst hq; simp [updV, mj_u2]
    · simp [updV, mj_u2, hq]
theorem mj_last (C : mj_C p s m args c cc D o) (hW : mj_W D base s (n, K, FI, FL, FR, AI, AL, AR) H) (hS : va_S (fun q => base ≤ q) s.heap H locs) {x : Int64} (hk : (K a).1 = 4) (hin : vp_in j (K a).2) (hd : decode cc pc = .ok (.lastore, 1))
    (kk : ∀ (H1 : Heap) (locs1 : List Loc), mj_W D base s (n, K, FI, FL, FR, AI, mj_u2 AL a j.toNatClampNeg x, AR) H1 → va_S (fun q => base ≤ q) s.heap H1 locs1 → W p l e R s m args below meth c H1 locs1 cells slots Q (F0 m (pc + 1) ls rest)) : W p l e R s m args below meth c H locs cells slots Q (F0 m pc ls (.long x :: .int j :: .ref a :: rest)) := by
  obtain ⟨hx, hb, -⟩ := C
  have hcl := hW.2.2 a
  have hba : base ≤ a := hW.2.1 a (by simp [hk]) (by simp [hk])
  simp only [mj_at, mj_cl, hk] at hcl
  obtain ⟨cA, h1, h2⟩ := hcl
  refine W.last hx hb h2 (h1 _ _) (fun q => by cases q) (mj_sz _ _ _ hin) rfl rfl hd fun H1 e z oq => ?_
  refine kk H1 _ (mj_W.put hW z oq (fun q hq => ⟨fun _ => rfl, fun _ => rfl, fun _ => rfl, rfl, ?_, rfl⟩) ?_) (hS.put z oq hba)
  · funext y; exact mj_u2_1 hq
  · simp only [mj_cl, hk]
    refine ⟨cA, h1, ?_⟩
    rw [e, arrV_store]
    congr 2
    funext q
    by_cases hq : q = j.toNatClampNeg
    · subst hq; simp [updV, mj_u2]
    · simp [updV, mj_u2, hq]
def mj_isA (k : Nat) : Prop := k = 2 ∨ k = 3 ∨ k = 4 ∨ k = 5 ∨ k = 9
theorem mj_alen (C : mj_C p s m args c cc D o) (hW : mj_W D base s (n, K, FI, FL, FR, AI, AL, AR) H) (hk : mj_isA (K a).1) (hd : decode cc pc = .ok (.arraylength, 1))
    (kk : W p l e R s m args below meth c H locs cells slots Q (F0 m (pc + 1) ls (.int (Int32.ofNat (K a).2) :: rest))) : W p l e R s m args below meth c H locs cells slots Q (F0 m pc ls (.ref a :: rest)) := by
  obtain ⟨hx, hb, -⟩ := C
  have hcl := hW.2.2 a
  rcases hk with hk | hk | hk | hk | hk <;> simp only [mj_at, mj_cl, hk] at hcl
  · obtain ⟨cA, h1, h2⟩ := hcl
    exact W.alen (n := Int32.ofNat (K a).2) hx hb h2 (h1 _ _) (by rw [arrV_size]) rfl rfl hd kk
  · obtain ⟨cA, h1, h2⟩ := hcl
    exact W.alen (n := Int32.ofNat (K a).2) hx hb h2 (h1 _ _) (by rw [arrV_size]) rfl rfl hd kk
  · obtain ⟨cA, h1, h2⟩ := hcl
    exact W.alen (n := Int32.ofNat (K a).2) hx hb h2 (h1 _ _) (by rw [arrV_size]) rfl rfl hd kk
  · obtain ⟨cA, h1, h2⟩ := hcl
    exact W.alen (n := Int32.ofNat (K a).2) hx hb h2 (h1 _ _) (by rw [arrV_size]) rfl rfl hd kk
  · obtain ⟨scr, g1, g2, g3, g4, g5⟩ := hcl
    exact W.alen (n := Int32.ofNat (K a).2) hx hb g1 g2 (by rw [g4]) rfl rfl hd kk
/-- System.arraycopy of ints -/
def mj_cp (AI : Nat → Nat → Int32) (a b sp dp n : Nat) : Nat → Nat → Int32 := fun q => if q = b then va_cpy (AI a) (AI b) sp dp n else AI q
set_option maxRecDepth 100000 in
theorem mj_w_nat : Cond.native arraycopyName ∈ mj_gw := mj_tb 836 (by decide +kernel) rfl
set_option maxRecDepth 100000 in
theorem mj_w_stc : Cond.static arraycopyName ∈ mj_gw := mj_tb 835 (by decide +kernel) rfl
set_option maxRecDepth 100000 in
theorem mj_w_sys : Cond.initialized "java/lang/System" ∈ mj_gw := mj_tb 18 (by decide +kernel) rfl
theorem mj_copy (C : mj_C p s m args c cc D o) (hml : c.maxLocals = ls.size) (hW : mj_W D base s (n, K, FI, FL, FR, AI, AL, AR) H) (hS : va_S (fun q => base ≤ q) s.heap H locs) {a0 y1 y2 : Nat} {sp dp cn : Int32} (hp : mj_pool o idx = some (9, y1, y2)) (hk0 : (K a0).1 = 2) (hk : (K a).1 = 2) (h1 : ¬ sp < 0) (h2 : ¬ dp < 0) (h3 : ¬ cn < 0) (h4 : sp.toNatClampNeg + cn.toNatClampNeg ≤ (K a0).2) (h5 : dp.toNatClampNeg + cn.toNatClampNeg ≤ (K a).2)
    (hframes : 1 ≤ R.frames) (hlocals : (rest.map fun v => v.category).sum + (nativeFrameWords "java/lang/System" "arraycopy" 5 + 11) ≤ R.locals) (hd : decode cc pc = .ok (.invokestatic idx, 3))
    (kk : ∀ (H1 : Heap) (locs1 : List Loc), mj_W D base s (n, K, FI, FL, FR, mj_cp AI a0 a sp.toNatClampNeg dp.toNatClampNeg cn.toNatClampNeg, AL, AR) H1 → va_S (fun q => base ≤ q) s.heap H1 locs1 → W p l e R s m args below meth c H1 locs1 cells slots Q (F0 m (pc + 3) ls rest)) : W p l e R s m args below meth c H locs cells slots Q (F0 m pc ls (.int cn :: .int dp :: .ref a :: .int sp :: .ref a0 :: rest)) := by
  have nn : ∀ z : Int32, ¬ z < 0 → z.toInt = (z.toNatClampNeg : Int) := by
    intro z hz
    have hz0 : (0 : Int) ≤ z.toInt := by
      have := Int32.not_lt.mp hz
      simpa using Int32.le_iff_toInt_le.mp this
    show z.toInt = ((z.toInt.toNat : Nat) : Int)
    omega
  obtain ⟨hx, hb, hown, hts, -⟩ := C
  have hba : base ≤ a := hW.2.1 a (by simp [hk]) (by simp [hk])
  have hcl0 := hW.2.2 a0
  have hcl := hW.2.2 a
  simp only [mj_at, mj_cl, hk0] at hcl0
  simp only [mj_at, mj_cl, hk] at hcl
  obtain ⟨c0, r0, hc0⟩ := hcl0
  obtain ⟨c1, r1, hc1⟩ := hcl
  intro T hT X
  obtain ⟨-, k0, hk0', cm0, hkk0⟩ := r0 (K a0).2 (fun j => .int (AI a0 j))
  obtain ⟨-, k1, hk1', cm1, hkk1⟩ := r1 (K a).2 (fun j => .int (AI a j))
  obtain ⟨vm', X', step⟩ := X.arraycopy hx hown (hts _ (mj_pool_sp hp)) (hts _ mj_w_nat) (hts _ mj_w_stc) (hts _ mj_w_sys) (src := a0) (dst := a) (cs := vp_cell c0 ((K a0).2, .inl (AI a0))) (cd := vp_cell c1 ((K a).2, .inl (AI a))) (srcPos := sp) (destPos := dp) (n := cn) (by rw [hT]; exact hc0) (by rw [hT]; exact hc1)
    (fun _ h => by cases h) (fun _ h => by cases h) (fun h => by cases h) (fun h => by cases h) hk0' hk1' hkk0 hkk1 (by simp [refKind]) h1 h2 h3
    (by rw [nn sp h1, nn cn h3]; show ¬ _ > ((arrV c0 (K a0).2 (fun j => .int (AI a0 j))).slots.size : Int); rw [arrV_size]; omega)
    (by rw [nn dp h2, nn cn h3]; show ¬ _ > ((arrV c1 (K a).2 (fun j => .int (AI a j))).slots.size : Int); rw [arrV_size]; omega)
    (fun vm₁ _ i hi => by
      have e : (vp_cell c0 ((K a0).2, .inl (AI a0))).slots.getD (sp.toNatClampNeg + i) .null = .int (AI a0 (sp.toNatClampNeg + i)) := by
        show (arrV c0 (K a0).2 (fun j => .int (AI a0 j))).slots.getD _ _ = _
        rw [Array.getD_eq_getD_getElem?, arrV_read _ _ (by omega)]
        rfl
      refine ⟨?_, ?_⟩
      · rw [e]
        rfl
      · rw [e]
        exact trivial)
    (g := F0 m pc ls (.int cn :: .int dp :: .ref a :: .int sp :: .ref a0 :: rest)) rfl (by rw [hml]) (rest := rest) rfl (by rw [hb]; exact hd) hframes (by show 2 * 0 + _ + _ ≤ _; omega)
  have e1 : copied (vp_cell c0 ((K a0).2, .inl (AI a0))) (vp_cell c1 ((K a).2, .inl (AI a))) sp dp cn = vp_cell c1 ((K a).2, .inl (va_cpy (AI a0) (AI a) sp.toNatClampNeg dp.toNatClampNeg cn.toNatClampNeg)) := va_copied (fun z => .int z) c0 c1 (AI a0) (AI a) h4
  rw [e1] at X' step
  have hl : a < H.size := (Array.getElem?_eq_some_iff.mp hc1).1
  have hheap : ((T.setVm vm').setCell a (vp_cell c1 ((K a).2, .inl (va_cpy (AI a0) (AI a) sp.toNatClampNeg dp.toNatClampNeg cn.toNatClampNeg)))).heap = H.setIfInBounds a (vp_cell c1 ((K a).2, .inl (va_cpy (AI a0) (AI a) sp.toNatClampNeg dp.toNatClampNeg cn.toNatClampNeg))) := by rw [← hT]; rfl
  have oq : ∀ q : Nat, q ≠ a → (H.setIfInBounds a (vp_cell c1 ((K a).2, .inl (va_cpy (AI a0) (AI a) sp.toNatClampNeg dp.toNatClampNeg cn.toNatClampNeg))))[q]? = H[q]? := fun q hq => by simp [Array.getElem?_setIfInBounds, Ne.symm hq]
  have hz : (H.setIfInBounds a (vp_cell c1 ((K a).2, .inl (va_cpy (AI a0) (AI a) sp.toNatClampNeg dp.toNatClampNeg cn.toNatClampNeg)))).size = H.size := by simp
  obtain ⟨t, a1, b1⟩ := kk _ _ (mj_W.put hW hz oq (fun q hq => ⟨fun _ => rfl, fun _ => rfl, fun _ => rfl, by simp [mj_cp, hq], rfl, rfl⟩) (by
      simp only [mj_cl, hk]
      refine ⟨c1, r1, ?_⟩
      simp [Array.getElem?_setIfInBounds, hl, mj_cp]
      rfl)) ⟨by simp; exact hS.1, fun q g1 g2 => by
      rw [oq q (fun e => g2 (by rw [e]; exact hba))]
      exact hS.2.1 q g1 g2, fun q hq => by
      rcases List.mem_append.mp hq with h | h
      · exact hS.2.2 q h
      · obtain ⟨z, -, hz⟩ := List.mem_map.mp h
        rw [← hz]
        exact hba⟩ _ hheap X'
  exact ⟨t, step t a1, b1⟩
end MJA
