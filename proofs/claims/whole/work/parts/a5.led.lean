/-! ## CoverTwo.led, that may throw; law.led, that catches -/
def ld_W : List Cond := [.declares (Bundle.initS "java/lang/RuntimeException"), .declares (Bundle.initS "java/lang/Exception"), .declares (Bundle.initS Bundle.tN), .castable ld_E ld_E]
theorem ld_w1 : ∀ w ∈ (ld_A.filter vx_no).filter goodWord, w ∈ lw_tbl := by decide +kernel
theorem ld_w2 : ∀ w ∈ (ld_A.filter vx_no).filter (fun w => !goodWord w), w ∈ ld_W := by decide +kernel
set_option maxRecDepth 100000 in
theorem ld_k : Cond.classLink RX7 302 ld_E ∈ mj_gw := mj_tb 1082 (by decide +kernel) rfl
set_option maxRecDepth 100000 in
theorem ld_i : Cond.initialized ld_E ∈ mj_gw := mj_gw_in (by decide +kernel) rfl
theorem ld_g : ∀ w ∈ Cond.classLink RX7 302 ld_E :: Cond.initialized ld_E :: ld_A.filter vx_no, vx_ot w = true := by decide +kernel
def ld_X (base : Nat) (U : State) (H : Heap) : Prop := vx_Zq Bundle.tN "UNASSIGNED_STACK" Bundle.steD (fun q => base ≤ q) U H ∧ vx_Zq Bundle.tN "SUPPRESSED_SENTINEL" Bundle.listD (fun q => base ≤ q) U H ∧ ∀ w ∈ ld_W, va_Nw w U
theorem ld_X.warm {base : Nat} {s U : State} {H : Heap} (hW : s.WarmedH U.vm) (h : ld_X base s H) : ld_X base U H := by
  refine ⟨h.1.moved hW.alike, h.2.1.moved hW.alike, fun w hw => ?_⟩
  have h9 := h.2.2 w hw
  simp only [ld_W, List.mem_cons, List.mem_nil_iff, or_false] at hw
  rcases hw with rfl | rfl | rfl | rfl
  · exact va_Nw.warmD hW h9
  · exact va_Nw.warmD hW h9
  · exact va_Nw.warmD hW h9
  · exact va_Nw.warmC hW h9
theorem ld_X.kept {base : Nat} {U : State} {H H1 : Heap} (h : ld_X base U H) (hq : ∀ a : Nat, a < H.size → ¬ base ≤ a → H1[a]? = H[a]?) : ld_X base U H1 := ⟨h.1.kept hq, h.2.1.kept hq, h.2.2⟩
theorem ld_X.same {base : Nat} {s U : State} {H : Heap} (hv : U.vm = s.vm) (h : ld_X base s H) : ld_X base U H := ld_X.warm (by rw [hv]; exact State.WarmedH.refl s) h
def ld_PP (D : va_G) (base : Nat) (sa av : Nat → Nat) (μ : mj_M) (U : State) : Prop := mj_PP D base sa av μ U ∧ ld_X base U U.heap
theorem ld_blind {D : va_G} {base : Nat} {sa av : Nat → Nat} {μ : mj_M} {As : List Value} : FrameBlind (va_Pc As (ld_PP D base sa av μ)) := fun a U g mk h => ⟨h.1, ⟨h.2.1.1, mj_X.same rfl h.2.1.2.1, mj_W.moved (Vm.Alike.refl U.vm) h.2.1.2.2⟩, ld_X.same (s := U) rfl h.2.2⟩
/-- where it has thrown -/
def ld_XC (D : va_G) (base : Nat) (μ : mj_M) (Tp : Prop) : String → State → State → Prop := fun E st t => E = ld_E ∧ Tp ∧ (∃ n', μ.1 ≤ n' ∧ mj_W D base t (n', μ.2) t.heap) ∧ va_F (fun q => base ≤ q) st t
theorem mj_W.grow {D : va_G} {base : Nat} {U : State} {μ : mj_M} {H H1 : Heap} (h : mj_W D base U μ H) (hz : H.size ≤ H1.size) (hk : ∀ q : Nat, q < H.size → H1[q]? = H[q]?) : mj_W D base U (H1.size, μ.2) H1 := by
  obtain ⟨n, K, FI, FL, FR, AI, AL, AR⟩ := μ
  refine ⟨rfl, h.2.1, fun a => ?_⟩
  have h0 := h.2.2 a
  simp only [mj_at] at h0 ⊢
  by_cases hl : a < H.size
  · exact mj_cl.kept h0 (hk a hl)
  · have hz : (K a).1 = 0 := by
      rcases Nat.eq_zero_or_pos (K a).1 with h9 | h9
      · exact h9
      · exact absurd (mj_cl.lt h0 (by omega)) (by omega)
    simp only [mj_cl, hz]
def ld_rm (d : Nat) : Room := { frames := d, cells := 1, slots := 6, locals := 64 * d }
theorem le_0 : decode (mj_b 139) 0 = .ok (.aload_n 0, 1) := by decide +kernel
theorem le_1 : decode (mj_b 139) 1 = .ok (.getfield 16, 3) := by decide +kernel
theorem le_4 : decode (mj_b 139) 4 = .ok (.iload_n 1, 1) := by decide +kernel
theorem le_5 : decode (mj_b 139) 5 = .ok (.invokevirtual 299, 3) := by decide +kernel
theorem le_8 : decode (mj_b 139) 8 = .ok (.istore_n 2, 1) := by decide +kernel
theorem le_9 : decode (mj_b 139) 9 = .ok (.iload_n 2, 1) := by decide +kernel
theorem le_10 : decode (mj_b 139) 10 = .ok (.ifCond .ge 14, 3) := by decide +kernel
theorem le_13 : decode (mj_b 139) 13 = .ok (.new 302, 3) := by decide +kernel
theorem le_16 : decode (mj_b 139) (13 + 3) = .ok (.dup, 1) := by decide +kernel
theorem le_17 : decode (mj_b 139) (13 + 4) = .ok (.ldc_w 304, 3) := by decide +kernel
theorem le_20 : decode (mj_b 139) (13 + 7) = .ok (.invokespecial 306, 3) := by decide +kernel
theorem le_23 : decode (mj_b 139) (13 + 10) = .ok (.athrow, 1) := by decide +kernel
theorem le_24 : decode (mj_b 139) 24 = .ok (.iload_n 2, 1) := by decide +kernel
theorem le_25 : decode (mj_b 139) 25 = .ok (.ireturn, 1) := by decide +kernel
theorem ld_met {l : Launch} (hl : l.stackTraces = false) {D : va_G} {base : Nat} {sa av : Nat → Nat} {d x h : Nat} {i : Int32} {μ : mj_M} {Q : mj_Q} {Tp : Prop} (hd8 : 8 ≤ d) (hKx : μ.2.1 x = (1, 7)) (hR : μ.2.2.2.2.1 450 x = some h)
    (hE : EV sa d 12 [.ref h, .int i] μ (fun v μ' => ∃ r, v = some (.int r) ∧ μ' = μ ∧ (¬ (0 : Int32) ≤ r → Tp) ∧ ((0 : Int32) ≤ r → Q (some (.int r)) μ))) :
    vx_Met l (mj_y 139) (mj_ws 139) (ld_rm (d + 1)) (va_Pc [.ref x, .int i] (ld_PP D base sa av μ)) (mj_QQ D base Q) (ld_XC D base μ Tp) 1 6 (fun q => base ≤ q) := by
  obtain ⟨m1, m2, m3, m4, m5, m6⟩ := mj_mok_all 139 (by decide)
  refine vx_ofW (cc := mj_b 139) (maxL := mj_mx 139) (ret := mj_rt 139) m4 rfl ?_
  intro p e s m args below meth c s₁ B hml hnt hv
  obtain ⟨rfl, ⟨hbs, hX, hW⟩, hZ⟩ := hv
  obtain ⟨n, K, FI, FL, FR, AI, AL, AR⟩ := μ
  have hts := atoms_spec (ws := mj_ws 139) B.pre
  have hts' : ∀ w ∈ mj_gw, w.before (List.toArray [.ref x, .int i]) s = true := fun w hw => hts w (List.mem_cons_of_mem _ hw)
  have hown : s.vm.findClass (mj_R (mj_o 139)) = some m.cls := by rw [← m3]; exact findClass_of_methodNamed B.named
  have hlocks := B.notSynchronized
  have C : mj_C p s m (List.toArray [.ref x, .int i]) c (mj_b 139) D 7 := ⟨B.exec, B.bytes, hown, hts', hX.1, hX.2.1, hX.2.2.1⟩
  rw [lg_entry_eq]
  have hL0 := mj_entry (i := 139) (As := [.ref x, .int i]) (by simp [mj_ent]; decide)
  have p16 : mj_pool 7 16 = some (1, 7, 2) := by decide +kernel
  have p299 : mj_pool 7 299 = some (4, 12, 0) := by decide +kernel
  have hx := B.exec
  have hb := B.bytes
  have hKx' : K x = (1, 7) := hKx
  have hR' : FR 450 x = some h := hR
  have ef : mj_fv 7 2 (fun f => FI f x) (fun f => FL f x) (fun f => FR f x) = .ref h := by
    show va_rf (FR 450 x) = _
    rw [hR']; rfl
  refine mj_pure hx hb le_0 rfl rfl hL0 (fun ls1 hL1 => ?_)
  refine mj_getf C hW p16 (Or.inl rfl) hKx' le_1 ?_
  rw [ef]
  refine mj_pure hx hb le_4 rfl rfl hL1 (fun ls2 hL2 => ?_)
  refine mj_inv (d := d) (r := []) C (by rw [hml]; exact hL2.2.1.symm) hX hbs (Nat.le_refl _) (Nat.le_refl _) hW va_S.rf (mj_met (mj_Bi_ok l D base sa av) d) le_5 (x := 12) (As := [.ref h, .int i]) ?_ (by decide) ⟨by show 0 + 0 ≤ 1; decide, by show 0 + 0 ≤ 6; decide⟩ hE (fun v μ' H1 locs1 q hW1 hS1 => ?_)
  · simp only [mj_iv, p299]
    rfl
  · obtain ⟨r, rfl, rfl, q1, q2⟩ := q
    refine mj_pure hx hb le_8 rfl rfl hL2 (fun ls3 hL3 => ?_)
    refine mj_pure hx hb le_9 rfl rfl hL3 (fun ls4 hL4 => ?_)
    refine mj_brch (len := 0) (tgt := 24) hx hb le_10 rfl rfl (fun z => ?_) (fun z => ?_)
    · refine mj_pure hx hb le_24 rfl rfl hL4 (fun ls5 hL5 => ?_)
      refine vx_ret ?_
      refine W.widen (k := 1) (n := 6) (by decide) (by decide) ?_
      exact W.zret hx hb B.returns rfl (fun t ht hw => ⟨_, _, rfl, q2 z, by rw [ht]; exact mj_W.moved hw.alike hW1, hS1.F ht⟩) hS1.2.2 le_25
    · exact ld_throw (text := "there is none such") (sa := sa 19) hx hb hl hown (hts' _ ld_k) (hts' _ ld_i) (hX.2.2.2.1 ("CoverTwo", 304, "there is none such", 19) (by decide +kernel)) (vx_hat (fun w hw => hts' w (mj_gw_in (ld_w1 w hw) (List.mem_filter.mp hw).2)) ld_w2 (fun w hw => va_Nw.use (by revert w; decide +kernel) (hZ.2.2 w hw))) ld_g hZ.1 hZ.2.1 hS1 (by rw [hml]; exact hL4.2.1) le_13 le_16 le_17 le_20 le_23 (fun x hx => (hnt x hx).elim) (by show 5 < d + 1; omega) (by show _ + 90 ≤ 64 * (d + 1); simp; omega) (by show 0 + 0 + 1 ≤ 1; decide) (by show 0 + 0 + 6 ≤ 6; decide) hlocks (fun t ha hz hk => ⟨rfl, q1 z, ⟨t.heap.size, by have := hW1.1; show n ≤ _; have h9 : H1.size = n := hW1.1; omega, mj_W.grow (mj_W.moved ha hW1) hz hk⟩, ⟨Nat.le_trans hS1.1 hz, fun q h1 h2 => (hk q (Nat.lt_of_lt_of_le h1 hS1.1)).trans (hS1.2.1 q h1 h2)⟩⟩) hS1.2.2 (by decide) (by decide)
