/-! ## new int[R][37] -/
theorem sh_outer (c : ClassId) (N h0 : Nat) : ∀ i : Nat, Jvm.Free.Multi.outerC c N h0 i = arrV c N (fun j => va_rf (if j < i then some (h0 + 1 + j) else none))
  | 0 => by
    show ({ cls := c, slots := Array.replicate N .null, vm := .none } : Cell) = _
    rw [arrV_new]
    refine congrArg (arrV c N) (funext fun j => ?_)
    simp [va_rf]
  | i + 1 => by
    show (Jvm.Free.Multi.outerC c N h0 i).setSlot i (.ref (h0 + 1 + i)) = _
    rw [sh_outer c N h0 i, arrV_store]
    refine congrArg (arrV c N) (funext fun j => ?_)
    by_cases e : j = i
    · subst e
      simp [updV, va_rf]
    · by_cases h : j < i
      · simp [updV, e, h, Nat.lt_succ_of_lt h]
      · simp [updV, e, h, show ¬ j < i + 1 by omega]
section MJU
variable {p : Program} {l : Launch} {e : Env} {R : Room} {s : State} {m : MethodId} {args : Array Value} {below : List Frame} {meth : Method} {c : Code} {H : Heap} {locs : List Loc} {cells slots : Nat} {Q : State → Prop}
variable {cc : ByteArray} {pc : Nat} {ls : Array Slot} {rest : List Value} {D : va_G} {base o idx n a : Nat} {K : Nat → Nat × Nat} {FI : Nat → Nat → Int32} {FL : Nat → Nat → Int64} {FR : Nat → Nat → Option Nat} {AI : Nat → Nat → Int32} {AL : Nat → Nat → Int64} {AR : Nat → Nat → Option Nat}
theorem mj_multi (C : mj_C p s m args c cc D o) (hAO : ∀ a : Array Value, (Cond.arrayOver (.array .int)).before a s = true) (hcl : Cond.classLink (mj_R o) idx "[[I" ∈ mj_gw) (hw9 : Cond.arrayClass .int ∈ mj_gw) (hbs : base ≤ s.heap.size) (hW : mj_W D base s (n, K, FI, FL, FR, AI, AL, AR) H) (hS : va_S (fun q => base ≤ q) s.heap H locs) {R0 : Nat} (hR0 : R0 ≤ 100) (hcells : cells + (1 + R0) ≤ R.cells) (hslots : slots + (R0 + R0 * 37) ≤ R.slots) (hd : decode cc pc = .ok (.multianewarray idx 2, 4))
    (kk : ∀ H1 : Heap, mj_W D base s (n + R0 + 1, shK n R0 n K, FI, FL, FR, shAI n R0 n AI, AL, shAR R0 n (fun i => n + 1 + i) AR) H1 → va_S (fun q => base ≤ q) s.heap H1 locs → W p l e R s m args below meth c H1 locs (cells + 1 + R0) (slots + R0 + R0 * 37) Q (F0 m (pc + 4) ls (.ref n :: rest))) : W p l e R s m args below meth c H locs cells slots Q (F0 m pc ls (.int 37 :: .int (nI R0) :: rest)) := by
  obtain ⟨hx, hb, hown, hts, -, -, hK⟩ := C
  have eN : (nI R0).toNatClampNeg = R0 := nI_clamp (by omega)
  have eK : (37 : Int32).toNatClampNeg = 37 := by decide
  intro T hT Xs
  obtain ⟨vm₁, cA, comp, -, fA, fC, hO, hI, X', step⟩ := Xs.multianewarray2F hx hown (ty := .int) (index := idx) (hts _ hcl) (hAO _) (hts _ hw9) (g := F0 m pc ls (.int 37 :: .int (nI R0) :: rest)) rfl (by rw [hb]; exact hd) rfl (nI_pos (by omega)) (by decide) (by rw [eN]; omega) (by rw [eK]; decide) (by rw [eK]; decide) rfl rfl (by rw [eN]; exact hcells) (by rw [eN, eK]; exact hslots)
  rw [eN, eK] at X' step
  generalize hF : Jvm.Free.Multi.fill (T.setVm vm₁) cA comp R0 37 (defaultValue .int) R0 = F at X' step
  have hTh : (T.setVm vm₁).heap = H := hT
  have hn : H.size = n := hW.1
  obtain ⟨f1, f2, -, -⟩ := Jvm.Free.Multi.fill_facts (T.setVm vm₁) cA comp R0 37 (defaultValue .int) R0
  rw [hF, hTh, hn] at f1 f2
  have hold : ∀ x : Nat, x < n → F.heap[x]? = H[x]? := fun x hx => by
    have := Jvm.Free.Multi.fill_old (T.setVm vm₁) cA comp R0 37 (defaultValue .int) (a := x) (by rw [hTh, hn]; exact hx) R0
    rw [hF, hTh] at this
    exact this
  have hrow : ∀ j : Nat, j < R0 → F.heap[n + 1 + j]? = some (arrV comp 37 (fun _ => .int 0)) := fun j hj => by
    have := Jvm.Free.Multi.fill_inner (T.setVm vm₁) cA comp R0 37 (defaultValue .int) R0 j hj
    rw [hF, hTh, hn] at this
    rw [this]
    exact congrArg some (arrV_new comp 37 (.int 0))
  rw [sh_outer] at f2
  have hAr : ArrOfT s cA (.array .int) := fun N9 z9 => by
    obtain ⟨-, k9, hk9, cm9, hkk9⟩ := (hO 0 0 0).1
    exact ⟨(fun q hq => by cases hq), k9, hk9, cm9, hkk9⟩
  have hAi : ArrOfT s comp .int := fun N9 z9 => by
    obtain ⟨-, k9, hk9, cm9, hkk9⟩ := (hI 0 (.int 0)).1
    exact ⟨(fun q hq => by cases hq), k9, hk9, cm9, hkk9⟩
  have hW1 : mj_W D base s (n + R0 + 1, shK n R0 n K, FI, FL, FR, shAI n R0 n AI, AL, shAR R0 n (fun i => n + 1 + i) AR) F.heap := by
    have hbn : base ≤ n := by rw [← hn]; exact Nat.le_trans hbs hS.1
    refine ⟨by show F.heap.size = n + R0 + 1; omega, fun a h1 h2 => ?_, fun a => ?_⟩
    · simp only [shK] at h1 h2
      by_cases e1 : a = n
      · omega
      · by_cases e2 : n ≤ a ∧ a ≤ n + R0
        · omega
        · simp only [e1, e2, if_false] at h1 h2
          exact hW.2.1 a h1 h2
    · show mj_cl D s (shK n R0 n K a) (fun f => FI f a) (fun f => FL f a) (fun f => FR f a) (shAI n R0 n AI a) (AL a) (shAR R0 n (fun i => n + 1 + i) AR a) a F.heap
      by_cases e1 : a = n
      · subst e1
        simp only [shK, shAR, if_true, mj_cl]
        exact ⟨cA, hAr, f2⟩
      · by_cases e2 : n ≤ a ∧ a ≤ n + R0
        · have e3 : n ≤ a ∧ a ≤ n + R0 ∧ a ≠ n := ⟨e2.1, e2.2, e1⟩
          simp only [shK, shAI, e1, e2, e3, if_true, if_false, mj_cl, and_self, ne_eq, not_false_eq_true]
          refine ⟨comp, hAi, ?_⟩
          have := hrow (a - n - 1) (by omega)
          rw [show n + 1 + (a - n - 1) = a by omega] at this
          exact this
        · have e3 : ¬ (n ≤ a ∧ a ≤ n + R0 ∧ a ≠ n) := fun h => e2 ⟨h.1, h.2.1⟩
          simp only [shK, shAI, shAR, e1, e2, e3, if_false]
          have h0 := hW.2.2 a
          simp only [mj_at] at h0
          by_cases hl : a < n
          · exact mj_cl.kept h0 (hold a hl)
          · have hz : (K a).1 = 0 := by
              rcases Nat.eq_zero_or_pos (K a).1 with h9 | h9
              · exact h9
              · exact absurd (mj_cl.lt h0 (by omega)) (by omega)
            simp only [mj_cl, hz]
  obtain ⟨t, a1, b1⟩ := kk F.heap hW1 ⟨by rw [f1]; have := hS.1; omega, fun x h1 h2 => (hold x (by rw [← hn]; exact Nat.lt_of_lt_of_le h1 hS.1)).trans (hS.2.1 x h1 h2), hS.2.2⟩ F rfl X'
  refine ⟨t, step t ?_, b1⟩
  have e : T.heap.size = n := by rw [hT]; exact hn
  rw [e]
  exact a1
end MJU
theorem sd_0 : decode (mj_b 45) 0 = .ok (.aload_n 0, 1) := by decide +kernel
theorem sd_1 : decode (mj_b 45) 1 = .ok (.invokespecial 3, 3) := by decide +kernel
theorem sd_4 : decode (mj_b 45) 4 = .ok (.aload_n 0, 1) := by decide +kernel
theorem sd_5 : decode (mj_b 45) 5 = .ok (.iload_n 1, 1) := by decide +kernel
theorem sd_6 : decode (mj_b 45) 6 = .ok (.iconst 1, 1) := by decide +kernel
theorem sd_7 : decode (mj_b 45) 7 = .ok (.invokestatic 9, 3) := by decide +kernel
theorem sd_10 : decode (mj_b 45) 10 = .ok (.bipush 37, 2) := by decide +kernel
theorem sd_12 : decode (mj_b 45) 12 = .ok (.multianewarray 15 2, 4) := by decide +kernel
theorem sd_16 : decode (mj_b 45) 16 = .ok (.putfield 17, 3) := by decide +kernel
theorem sd_19 : decode (mj_b 45) 19 = .ok (.return_, 1) := by decide +kernel
theorem sh_max {R0 : Nat} (hR : R0 = 12 ∨ R0 = 3) : (if Int32.ofNat R0 < Int32.ofInt 1 then Int32.ofInt 1 else Int32.ofNat R0) = Int32.ofNat R0 := by
  rcases hR with rfl | rfl <;> decide
set_option maxRecDepth 100000 in
theorem sw_ai : Cond.arrayClass .int ∈ mj_gw := mj_gw_in mj_w_ai rfl
theorem sh_met {l : Launch} {D : va_G} {base : Nat} {sa av : Nat → Nat} {d a R0 : Nat} {μ : mj_M} {Q : mj_Q} (hR : R0 = 12 ∨ R0 = 3) (hKa : μ.2.1 a = (1, 3))
    (hQ : ∀ (e : Nat) (g : Nat → Nat), (μ.1 ≤ e ∧ e ≤ μ.1 + R0) → (∀ t, t < R0 → μ.1 ≤ g t ∧ g t ≤ μ.1 + R0 ∧ g t ≠ e) → (∀ t j, t < R0 → j < R0 → g t = g j → t = j) → Q none (μ.1 + R0 + 1, shK μ.1 R0 e μ.2.1, μ.2.2.1, μ.2.2.2.1, mj_u2 μ.2.2.2.2.1 192 a (some e), shAI μ.1 R0 e μ.2.2.2.2.2.1, μ.2.2.2.2.2.2.1, shAR R0 e g μ.2.2.2.2.2.2.2)) :
    Met l (mj_y 45) (mj_ws 45) (mj_rm (d + 1) 45) (va_Pc [.ref a, .int (Int32.ofNat R0)] (mj_PP D base sa av μ)) (mj_QQ D base Q) (mj_al 45).1 (mj_al 45).2 (fun q => base ≤ q) := by
  have hn : (45 : Nat) < mj_n := by decide
  obtain ⟨m1, m2, m3, m4, m5, m6⟩ := mj_mok_all 45 hn
  refine Met.ofW (cc := mj_b 45) (maxL := mj_mx 45) (ret := mj_rt 45) m4 rfl ?_
  intro p e s m args below meth c s₁ B hml hv
  obtain ⟨rfl, hbs, hX, hW⟩ := hv
  obtain ⟨n, K, FI, FL, FR, AI, AL, AR⟩ := μ
  have hts := atoms_spec (ws := mj_ws 45) B.pre
  have hts' : ∀ w ∈ mj_gw, w.before (List.toArray [.ref a, .int (Int32.ofNat R0)]) s = true := fun w hw => hts w (List.mem_cons_of_mem _ hw)
  have hown : s.vm.findClass (mj_R (mj_o 45)) = some m.cls := by rw [← m3]; exact findClass_of_methodNamed B.named
  have hlocks := B.notSynchronized
  have C : mj_C p s m (List.toArray [.ref a, .int (Int32.ofNat R0)]) c (mj_b 45) D (mj_o 45) := ⟨B.exec, B.bytes, hown, hts', hX.1, hX.2.1, hX.2.2.1⟩
  have hini : meth.name = "<init>" := by
    have h5 : meth.name = (mj_y 45).name := (name_of_methodNamed B.named B.method).1
    rw [h5]; rfl
  rw [lg_entry_eq]
  have hL0 := mj_entry (i := 45) (As := [.ref a, .int (Int32.ofNat R0)]) (by simp [mj_ent]; decide)
  have hRr : R0 ≤ 12 := by omega
  have p3 : mj_pool 3 3 = some (8, 0, 0) := by decide +kernel
  have p9 : mj_pool 3 9 = some (14, 0, 0) := by decide +kernel
  have p11 : mj_pool 3 17 = some (1, 3, 0) := by decide +kernel
  have hx := B.exec
  have hb := B.bytes
  have hKa' : K a = (1, 3) := hKa
  refine mj_pure hx hb sd_0 rfl rfl hL0 (fun ls1 hL1 => ?_)
  refine W.objInit hx hb hown (hts' _ (mj_pool_sp p3)) (hts' _ mj_w_ob1) (hts' _ mj_w_ob2) rfl (by rw [hml]; exact hL1.2.1) rfl sd_1 (by show 1 ≤ d + 1; omega) (by show 2 * 0 + _ + 12 ≤ 64 * (d + 1); simp; omega) ?_
  refine mj_pure hx hb sd_4 rfl rfl hL1 (fun ls2 hL2 => ?_)
  refine mj_pure hx hb sd_5 rfl rfl hL2 (fun ls3 hL3 => ?_)
  refine mj_pure hx hb sd_6 rfl rfl hL3 (fun ls5 hL5 => ?_)
  refine va_mmax hx hb (by rw [hml]; exact hL5.2.1.symm) hown (hts' _ (mj_pool_sp p9)) (hts' _ mj_w_max1) (hts' _ mj_w_mth) (hts' _ mj_w_max2) (by show 1 ≤ d + 1; omega) (by show 1 + 0 + 13 ≤ 64 * (d + 1); omega) (Nat.zero_le _) (Nat.zero_le _) sd_7 ?_
  rw [sh_max hR]
  refine mj_pure hx hb sd_10 rfl rfl hL5 (fun ls4 hL4 => ?_)
  refine mj_multi (R0 := R0) C hX.2.2.2.2.2.1 jw_sh sw_ai hbs hW va_S.rf (by omega) (by show 0 + (1 + R0) ≤ 13; omega) (by show 0 + (R0 + R0 * 37) ≤ 456; omega) sd_12 (fun H1 hW1 hS1 => ?_)
  refine mj_putf C hW1 p11 (Or.inl rfl) (Or.inr ⟨rfl, rfl, hini⟩) ?_ (v := .ref n) rfl rfl sd_16 (FR' := mj_u2 FR 192 a (some n)) (fun q hq => ⟨fun _ => rfl, fun _ => rfl, fun _ => mj_u2_2 hq⟩) (fun j _ => mj_fv_r (ci := 3) (k := 0) (j := j) (a := a) (x := some n) (FR := FR) (Or.inr ⟨.array .int, rfl⟩)) hS1 (fun H2 locs2 hW2 hS2 => ?_)
  · have hlt : a < n := by
      have h0 := hW.2.2 a
      simp only [mj_at, hKa'] at h0
      have := mj_cl.lt h0 (by decide)
      have h9 : s.heap.size = n := hW.1
      omega
    simp only [shK]
    rw [if_neg (by omega), if_neg (by omega)]
    exact hKa'
  · refine W.widen (k := 13) (n := 456) (by show 0 + 1 + R0 ≤ 13; omega) (by show 0 + R0 + R0 * 37 ≤ 456; omega) ?_
    exact W.vret hx hb B.returns (fun t ht hw => ⟨none, _, rfl, hQ n (fun i => n + 1 + i) ⟨Nat.le_refl _, by show n ≤ n + R0; omega⟩ (fun t ht => ⟨by show n ≤ n + 1 + t; omega, by show n + 1 + t ≤ n + R0; omega, by show n + 1 + t ≠ n; omega⟩) (fun t j h1 h2 h3 => by have h3 : n + 1 + t = n + 1 + j := h3; omega), by rw [ht]; exact mj_W.moved hw.alike hW2, hS2.F ht⟩) hS2.2.2 sd_19
/-- all that was owed of the methods that ride as builtins -/
theorem mj_Bi_ok (l : Launch) (D : va_G) (base : Nat) (sa av : Nat → Nat) : mj_Bi l D base sa av := by
  intro d i As μ Q h8 h
  rcases h with ⟨rfl, x, hx, rfl, hQ⟩ | ⟨rfl, x, j, hx, rfl, hj, hQ⟩ | ⟨rfl, a, R, hR, rfl, hK, hQ⟩
  · exact jd_length (f := d) hx hQ
  · obtain ⟨f, rfl⟩ : ∃ f, d = f + 2 := ⟨d - 2, by omega⟩
    exact jd_charAt (f := f) hx hj hQ
  · exact sh_met hR hK hQ
