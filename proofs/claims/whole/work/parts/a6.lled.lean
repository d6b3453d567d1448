/-! ## law.led -/
def ll_ws : List Cond := Cond.codeWith yL_led cL_led 4 (some .int) [(0, 9, 12, 13)] :: mj_gw
set_option maxRecDepth 100000 in
theorem ll_w : Cond.codeWith yL_led cL_led 4 (some .int) [(0, 9, 12, 13)] ∈ mj_gw := mj_tb 1072 rfl rfl
set_option maxRecDepth 100000 in
theorem ll_c : Cond.classLink RL 13 ld_E ∈ mj_gw := mj_tb 1073 (by decide +kernel) rfl
set_option maxRecDepth 100000 in
theorem ll_l : Cond.methodLink RL 188 yL_led ∈ mj_gw := mj_tb 1070 (by decide +kernel) rfl
set_option maxRecDepth 100000 in
theorem ll_s : Cond.static yL_led ∈ mj_gw := mj_tb 1071 (by decide +kernel) rfl
set_option maxRecDepth 100000 in
theorem ll_i : Cond.initialized RL ∈ mj_gw := mj_gw_in (by decide +kernel) rfl
theorem ll_0 : decode cL_led 0 = .ok (.aload_n 2, 1) := by decide +kernel
theorem ll_1 : decode cL_led 1 = .ok (.iconst 0, 1) := by decide +kernel
theorem ll_2 : decode cL_led 2 = .ok (.aload_n 0, 1) := by decide +kernel
theorem ll_3 : decode cL_led 3 = .ok (.iload_n 1, 1) := by decide +kernel
theorem ll_4 : decode cL_led 4 = .ok (.invokevirtual 7, 3) := by decide +kernel
theorem ll_7 : decode cL_led 7 = .ok (.i2l, 1) := by decide +kernel
theorem ll_8 : decode cL_led 8 = .ok (.lastore, 1) := by decide +kernel
theorem ll_9 : decode cL_led 9 = .ok (.goto 6, 3) := by decide +kernel
theorem ll_12 : decode cL_led 12 = .ok (.astore_n 3, 1) := by decide +kernel
theorem ll_13 : decode cL_led 13 = .ok (.iconst 1, 1) := by decide +kernel
theorem ll_14 : decode cL_led 14 = .ok (.ireturn, 1) := by decide +kernel
theorem ll_15 : decode cL_led 15 = .ok (.iconst 0, 1) := by decide +kernel
theorem ll_16 : decode cL_led 16 = .ok (.ireturn, 1) := by decide +kernel
section LLM
variable {p : Program} {l : Launch} {e : Env} {R : Room} {s : State} {m : MethodId} {args : Array Value} {below : List Frame} {meth : Method} {c : Code} {H : Heap} {locs : List Loc} {k z : Nat} {QQ : State → Prop}
variable {pc : Nat} {ls : Array Slot} {D : va_G} {base : Nat} {sa av : Nat → Nat} {μ : mj_M}
theorem mj_recvK (hX : mj_X D base sa av s H) (hW : mj_W D base s μ H) {b ci : Nat} (hK : μ.2.1 b = (1, ci)) : ∃ cell : Cell, H[b]? = some cell ∧ cell.vm.isStatics = false ∧ s.vm.findClass (mj_R ci) = some cell.cls := by
  obtain ⟨n, K, FI, FL, FR, AI, AL, AR⟩ := μ
  have hcl := hW.2.2 b
  have hK : K b = (1, ci) := hK
  simp only [mj_at, mj_cl, hK] at hcl
  obtain ⟨hci, cell, q1, q2, q3, -⟩ := hcl
  obtain ⟨o1, -⟩ := mj_cok_all hci
  refine ⟨cell, q1, by rw [q3]; rfl, ?_⟩
  rw [q2]
  exact (hX.2.2.1.1 _ _ o1).2.1
/-- behind a call that may have thrown -/
theorem mj_callX {mc ms : Nat} {st0 rest : List Value} {a : Array Value} {Q' : mj_Q} {Tp : Prop} (hr : vx_Run p l e R s m args below meth c H locs k z mc ms (F0 m pc ls st0) rest (mj_QQ D base Q' a) (ld_XC D base μ Tp) (fun q => base ≤ q)) (hS : va_S (fun q => base ≤ q) s.heap H locs)
    (kk : ∀ (v : Option Value) (μ' : mj_M) (H1 : Heap) (locs1 : List Loc), Q' v μ' → mj_W D base s μ' H1 → va_S (fun q => base ≤ q) s.heap H1 locs1 → W p l e R s m args below meth c H1 locs1 (k + mc) (z + ms) QQ (F0 m (pc + 3) ls (v.toList ++ rest)))
    (kx : ∀ (ce : Cell) (q9 : Addr) (n' : Nat) (H1 : Heap) (locs1 : List Loc), Tp → μ.1 ≤ n' → mj_W D base s (n', μ.2) H1 → va_S (fun q => base ≤ q) s.heap H1 locs1 → H1[q9]? = some ce → ce.vm = .none → s.vm.findClass ld_E = some ce.cls → vx_W p l e R s m args below meth c H1 locs1 (k + mc) (z + ms) QQ (F0 m pc ls rest) q9) : W p l e R s m args below meth c H locs k z QQ (F0 m pc ls st0) := by
  intro T hT X
  rcases hr T hT X with ⟨v, st₀, t, T', L, h0, X', hL, e1, e2, ⟨r, μ', hv, hq, hw, hz, hk⟩, st⟩ | ⟨q, st₀, t, T', L, E, ce, h0, X', hL, e1, e2, ⟨hE, hTp, ⟨n', hn', hw⟩, hz, hk⟩, hce, hcv, hcl, st⟩
  · cases hv
    rw [h0] at hz hk
    have hal : s.vm.Alike t.vm := by rw [← e2]; exact X'.warmed.alike
    obtain ⟨t2, a1, b1⟩ := kk _ μ' T'.heap (locs ++ L) hq (by rw [e1]; exact mj_W.moved hal.symm hw)
      ⟨Nat.le_trans hS.1 (by rw [e1]; exact hz), fun q h1 h2 => by rw [e1, hk q (Nat.lt_of_lt_of_le h1 hS.1) h2]; exact hS.2.1 q h1 h2, fun q hq => by
        rcases List.mem_append.mp hq with h | h
        · exact hS.2.2 q h
        · exact hL q h⟩ T' rfl X'
    exact ⟨t2, st t2 a1, b1⟩
  · subst hE
    rw [h0] at hz hk
    have hal : s.vm.Alike t.vm := by rw [← e2]; exact X'.warmed.alike
    obtain ⟨t2, a1, b1⟩ := kx ce q n' T'.heap (locs ++ L) hTp hn' (by rw [e1]; exact mj_W.moved hal.symm hw)
      ⟨Nat.le_trans hS.1 (by rw [e1]; exact hz), fun q h1 h2 => by rw [e1, hk q (Nat.lt_of_lt_of_le h1 hS.1) h2]; exact hS.2.1 q h1 h2, fun q hq => by
        rcases List.mem_append.mp hq with h | h
        · exact hS.2.2 q h
        · exact hL q h⟩ (by rw [e1]; exact hce) hcv hcl T' rfl X'
    exact ⟨t2, st.trans a1, b1⟩
end LLM
theorem ll_met {l : Launch} (hl : l.stackTraces = false) {D : va_G} {base : Nat} {sa av : Nat → Nat} {d x h o : Nat} {i : Int32} {μ : mj_M} {Q : mj_Q} {Tp : Prop} {Rp : Int32 → Prop} (hd8 : 8 ≤ d) (hKx : μ.2.1 x = (1, 7)) (hR : μ.2.2.2.2.1 450 x = some h) (hKo : μ.2.1 o = (4, 1))
    (hE : EV sa d 12 [.ref h, .int i] μ (fun v μ' => ∃ r, v = some (.int r) ∧ μ' = μ ∧ (¬ (0 : Int32) ≤ r → Tp) ∧ ((0 : Int32) ≤ r → Rp r)))
    (hQ1 : ∀ r, Rp r → Q (some (.int 0)) (μ.1, μ.2.1, μ.2.2.1, μ.2.2.2.1, μ.2.2.2.2.1, μ.2.2.2.2.2.1, mj_u2 μ.2.2.2.2.2.2.1 o 0 r.toInt64, μ.2.2.2.2.2.2.2)) (hQ2 : Tp → ∀ n', μ.1 ≤ n' → Q (some (.int 1)) (n', μ.2)) :
    Met l yL_led ll_ws (ld_rm (d + 2)) (va_Pc [.ref x, .int i, .ref o] (ld_PP D base sa av μ)) (mj_QQ D base Q) 1 6 (fun q => base ≤ q) := by
  refine va_MetW (cc := cL_led) (maxL := 4) (ret := some .int) (hh := [(0, 9, 12, 13)]) (by decide) rfl ?_
  intro p e s m args below meth c s₁ B hml hv
  obtain ⟨rfl, ⟨hbs, hX, hW⟩, hZ⟩ := hv
  have hts := atoms_spec (ws := ll_ws) B.pre
  have hts' : ∀ w ∈ mj_gw, w.before (List.toArray [.ref x, .int i, .ref o]) s = true := fun w hw => hts w (List.mem_cons_of_mem _ hw)
  have hown : s.vm.findClass RL = some m.cls := findClass_of_methodNamed B.named
  have hlocks := B.notSynchronized
  have C : mj_C p s m (List.toArray [.ref x, .int i, .ref o]) c cL_led D 11 := ⟨B.exec, B.bytes, hown, hts', hX.1, hX.2.1, hX.2.2.1⟩
  have htab := vx_table (x := yL_led) B (hts' _ ll_w)
  rw [lg_entry_eq]
  have hL0 := jd_entry (nL := 4) (As := [.ref x, .int i, .ref o]) (by simp [mj_ent])
  have hx := B.exec
  have hb := B.bytes
  have p7 : mj_pool 11 7 = some (4, 139, 0) := by decide +kernel
  obtain ⟨w0, w1, w2, w3⟩ := mj_pool_sp p7
  obtain ⟨m1, m2, m3, m4, m5, m6⟩ := mj_mok_all 139 w0
  refine mj_pure hx hb ll_0 rfl rfl hL0 (fun ls1 hL1 => ?_)
  refine mj_pure hx hb ll_1 rfl rfl hL1 (fun ls2 hL2 => ?_)
  refine mj_pure hx hb ll_2 rfl rfl hL2 (fun ls3 hL3 => ?_)
  refine mj_pure hx hb ll_3 rfl rfl hL3 (fun ls4 hL4 => ?_)
  have hM := ld_met (l := l) hl (D := D) (base := base) (sa := sa) (av := av) (μ := μ) (Tp := Tp) (Q := fun v μ' => ∃ r, v = some (.int r) ∧ μ' = μ ∧ Rp r) hd8 hKx hR (EV_mono sa d _ _ _ _ _ (fun v μ' q => by
    obtain ⟨r, q1, q2, q3, q4⟩ := q
    exact ⟨r, q1, q2, q3, fun z => ⟨r, rfl, rfl, q4 z⟩⟩) hE)
  have cw : CallW (headSpec ll_ws (ld_rm (d + 2))).room s (List.toArray [.ref x, .int i, .ref o]) RL (mj_y 139).cls 7 (mj_y 139) (mj_b 139) (mj_mx 139) (mj_rt 139) (mj_ws 139) (ld_rm (d + 1)) 1 6 1 := cwV (Ts := mj_gw) 1 hts' (mj_gin (fun w hw => by
        rcases List.mem_append.mp hw with h | h
        · simp only [List.mem_cons, List.mem_nil_iff, or_false] at h
          rcases h with rfl | rfl | rfl | rfl
          · exact w1
          · exact w2
          · exact w3
          · exact m2
        · exact mj_ws_in w0 w h)) rfl rfl rfl ⟨rfl, m5.1, m5.2.1, m5.2.2⟩ ⟨Nat.le_refl _, by show 8 + (3 + 11) + 64 * (d + 1) ≤ 64 * (d + 2); omega⟩
  refine mj_callX (μ := μ) (Tp := Tp) (vx_runV (As := [.int i]) (rest := [.int 0, .ref o]) (b := x) ⟨hx, hb, hml.trans hL4.2.1.symm, hown, hts'⟩ hM cw ⟨ld_blind, mj_recvK hX hW hKx, fun U hU hw => ⟨rfl, ⟨by rw [hU]; exact hbs, by rw [hU]; exact mj_X.warm hw hX, by rw [hU]; exact mj_W.moved hw.alike hW⟩, by rw [hU]; exact ld_X.warm hw hZ⟩⟩ rfl rfl rfl rfl (lv_room (mj_cat8 (r := [.int 0, .ref o]) (by simp))) ll_4 ⟨by show 0 + 1 ≤ 1; decide, by show 0 + 6 ≤ 6; decide⟩) va_S.rf (fun v μ' H1 locs1 q hW1 hS1 => ?_) (fun ce q9 n' H1 locs1 hT hn hW1 hS1 hce hcv hcl => ?_)
  · obtain ⟨r, rfl, rfl, hr⟩ := q
    refine mj_pure hx hb ll_7 rfl rfl hL4 (fun ls5 hL5 => ?_)
    refine mj_last C hW1 hS1 (by rw [hKo]) (by rw [hKo]; exact vp_in_nI (n := 0) (N := 1) (by decide) (by decide)) ll_8 (fun H2 locs2 hW2 hS2 => ?_)
    refine mj_brch (len := 0) (tgt := 15) hx hb ll_9 rfl rfl (fun _ => ?_) (fun h => absurd trivial h)
    refine mj_pure hx hb ll_15 rfl rfl hL5 (fun ls6 hL6 => ?_)
    exact W.zret hx hb B.returns rfl (fun t ht hw => ⟨_, _, rfl, hQ1 r hr, by rw [ht]; exact mj_W.moved hw.alike hW2, hS2.F ht⟩) hS2.2.2 ll_16
  · refine vx_catch hown [] ⟨0, 9, 12, 13⟩ [] (by rw [htab]; rfl) (fun z hz => nomatch hz) rfl (by decide) (hts' _ ll_c) (va_Nw.use rfl (hZ.2.2 (.castable ld_E ld_E) (by simp [ld_W]))) hce hcv hcl ?_
    refine mj_pure hx hb ll_12 rfl rfl hL4 (fun ls5 hL5 => ?_)
    refine mj_pure hx hb ll_13 rfl rfl hL5 (fun ls6 hL6 => ?_)
    exact W.zret hx hb B.returns rfl (fun t ht hw => ⟨_, _, rfl, hQ2 hT n' hn, by rw [ht]; exact mj_W.moved hw.alike hW1, hS1.F ht⟩) hS1.2.2 ll_14
