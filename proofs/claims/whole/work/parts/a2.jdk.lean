/-! ## the JDK's own methods that the String constants reach -/
def jd_ws (y : MethodName) (cc : ByteArray) (maxL : Nat) (ret : Option FieldType) : List Cond := Cond.code y cc maxL ret :: mj_gw
def jd_rm (f : Nat) : Room := { frames := f, cells := 0, slots := 0, locals := 64 * f }
theorem jd_entry {nL : Nat} {As : List Value} (h : (mj_ent As).length ≤ nL) : mj_L ((lg_sl As ++ List.replicate (nL - (lg_sl As).length) Slot.unset).toArray) nL (mj_ent As ++ List.replicate (nL - (mj_ent As).length) mj_u) := by
  have hl := lv_entry As (n := nL) (by rw [mj_ent_len]; exact h)
  refine ⟨by simp; omega, hl.1, hl.2.1, fun q hq => ?_⟩
  obtain ⟨k, w⟩ := q
  obtain ⟨h1, h2⟩ := mj_l_mem.mp hq
  apply hl.2.2
  by_cases hk : k < (mj_ent As).length
  · rw [List.getElem?_append_left hk] at h1
    have := mj_ent_args As 0 k w h1 h2
    simpa using this
  · rw [List.getElem?_append_right (by omega)] at h1
    have := List.mem_of_getElem? h1
    rw [List.mem_replicate] at this
    exact absurd this.2 h2
/-- what a body of the JDK's has at its entry -/
def jd_B (p : Program) (s : State) (m : MethodId) (args : Array Value) (meth : Method) (c : Code) (y : MethodName) (cc : ByteArray) (maxL : Nat) (ret : Option FieldType) (D : va_G) (base : Nat) (sa av : Nat → Nat) : Prop := p.tables.exec = Jvm.exec ∧ c.code = cc ∧ c.maxLocals = maxL ∧ meth.sig.returnType = ret ∧ s.vm.findClass y.cls = some m.cls ∧ (∀ w ∈ mj_gw, w.before args s = true) ∧ mj_X D base sa av s s.heap ∧ base ≤ s.heap.size ∧ meth.locks = false
section JD
variable {l : Launch} {D : va_G} {base : Nat} {sa av : Nat → Nat} {μ : mj_M} {As : List Value} {Q : mj_Q} {f : Nat}
theorem jd_met {y : MethodName} {cc : ByteArray} {maxL : Nat} {ret : Option FieldType} (hy : plainName y.cls = true) (hl : (mj_ent As).length ≤ maxL)
    (body : ∀ (p : Program) (e : Env) (s : State) (m : MethodId) (below : List Frame) (meth : Method) (c : Code) (ls : Array Slot), jd_B p s m As.toArray meth c y cc maxL ret D base sa av → mj_W D base s μ s.heap → mj_L ls maxL (mj_ent As ++ List.replicate (maxL - (mj_ent As).length) mj_u) → W p l e (jd_rm f) s m As.toArray below meth c s.heap [] 0 0 (MQ below (mj_QQ D base Q) As.toArray s 0 0 (fun q => base ≤ q)) (F0 m 0 ls [])) :
    Met l y (jd_ws y cc maxL ret) (jd_rm f) (va_Pc As (mj_PP D base sa av μ)) (mj_QQ D base Q) 0 0 (fun q => base ≤ q) := by
  refine Met.ofW (cc := cc) (maxL := maxL) (ret := ret) hy rfl ?_
  intro p e s m args below meth c s₁ B hml hv
  obtain ⟨rfl, hbs, hX, hW⟩ := hv
  have hts := atoms_spec (ws := jd_ws y cc maxL ret) B.pre
  rw [lg_entry_eq]
  exact body p e s m below meth c _ ⟨B.exec, B.bytes, hml, B.returns, findClass_of_methodNamed B.named, fun w hw => hts w (List.mem_cons_of_mem _ hw), hX, hbs, B.notSynchronized⟩ hW (jd_entry hl)
variable {p : Program} {e : Env} {R : Room} {s : State} {m : MethodId} {args : Array Value} {below : List Frame} {meth : Method} {c : Code} {H : Heap} {locs : List Loc} {k z : Nat} {QQ : State → Prop} {pc : Nat} {ls : Array Slot} {st r : List Value} {y : MethodName} {cc : ByteArray} {maxL : Nat} {ret : Option FieldType}
theorem jd_ret {ty : FieldType} {v : Int32} (B : jd_B p s m args meth c y cc maxL (some ty) D base sa av) (hn : narrow ty (.int v) = .int v) (hq : Q (some (.int v)) μ) (hW : mj_W D base s μ H) (hS : va_S (fun q => base ≤ q) s.heap H locs) (hd : decode cc pc = .ok (.ireturn, 1)) : W p l e R s m args below meth c H locs 0 0 (MQ below (mj_QQ D base Q) args s 0 0 (fun q => base ≤ q)) (F0 m pc ls [.int v]) :=
  W.zret B.1 B.2.1 B.2.2.2.1 hn (fun t ht hw => ⟨_, μ, rfl, hq, by rw [ht]; exact mj_W.moved hw.alike hW, hS.F ht⟩) hS.2.2 hd (hlocks := B.2.2.2.2.2.2.2.2)
theorem jd_vret (B : jd_B p s m args meth c y cc maxL none D base sa av) (hq : Q none μ) (hW : mj_W D base s μ H) (hS : va_S (fun q => base ≤ q) s.heap H locs) (hd : decode cc pc = .ok (.return_, 1)) : W p l e R s m args below meth c H locs 0 0 (MQ below (mj_QQ D base Q) args s 0 0 (fun q => base ≤ q)) (F0 m pc ls []) :=
  W.vret B.1 B.2.1 B.2.2.2.1 (fun t ht hw => ⟨_, μ, rfl, hq, by rw [ht]; exact mj_W.moved hw.alike hW, hS.F ht⟩) hS.2.2 hd (hlocks := B.2.2.2.2.2.2.2.2)
theorem jd_pre (hX : mj_X D base sa av s s.heap) (hbs : base ≤ s.heap.size) (hW : mj_W D base s μ H) (hS : va_S (fun q => base ≤ q) s.heap H locs) : ∀ U : State, U.heap = H → s.WarmedH U.vm → va_Pc As (mj_PP D base sa av μ) As.toArray U := fun U hU hw => ⟨rfl, by rw [hU]; exact Nat.le_trans hbs hS.1, by rw [hU]; exact mj_X.warm hw (hX.kept (fun a h1 h2 => hS.2.1 a h1 h2)), by rw [hU]; exact mj_W.moved hw.alike hW⟩
theorem jd_S {y' : MethodName} {cc' : ByteArray} {maxL' n idx : Nat} {ret' : Option FieldType} {Q' : mj_Q} (B : jd_B p s m args meth c y cc maxL ret D base sa av) (hL : ls.size = maxL) (hW : mj_W D base s μ H) (hS : va_S (fun q => base ≤ q) s.heap H locs)
    (hM : Met l y' (jd_ws y' cc' maxL' ret') (jd_rm f) (va_Pc As (mj_PP D base sa av μ)) (mj_QQ D base Q') 0 0 (fun q => base ≤ q))
    (w1 : Cond.methodLink y.cls idx y' ∈ mj_gw) (w2 : Cond.static y' ∈ mj_gw) (w3 : Cond.initialized y'.cls ∈ mj_gw) (w4 : Cond.code y' cc' maxL' ret' ∈ mj_gw) (m5 : y'.cls ≠ "java/lang/invoke/MethodHandle" ∧ y'.cls ≠ "java/lang/invoke/VarHandle" ∧ (parseMethodDescriptor y'.desc).map (fun d => d.parameters.length) = some n) (hm : maxL' ≤ 40) (hR : f + 1 ≤ R.frames ∧ 64 * (f + 1) ≤ R.locals) (hc : 0 ≤ R.cells ∧ 0 ≤ R.slots) (hd : decode cc pc = .ok (.invokestatic idx, 3)) (hn : As.length = n) (hr : r.length ≤ 4) (hst : st = As.reverse ++ r)
    (kk : ∀ (v : Option Value) (μ' : mj_M) (H1 : Heap) (locs1 : List Loc), Q' v μ' → mj_W D base s μ' H1 → va_S (fun q => base ≤ q) s.heap H1 locs1 → W p l e R s m args below meth c H1 locs1 0 0 QQ (F0 m (pc + 3) ls (v.toList ++ r))) : W p l e R s m args below meth c H locs 0 0 QQ (F0 m pc ls st) := by
  obtain ⟨hx, hb, hml, -, hown, hts, hX, hbs, -⟩ := B
  have cb : CallB R s args y.cls idx y' cc' maxL' ret' (jd_ws y' cc' maxL' ret') (jd_rm f) 0 0 n := callB_of (Ts := mj_gw) n hts (mj_gin (fun w hw => (List.mem_cons.mp hw).elim (fun q => by rw [q]; exact w4) id)) rfl rfl rfl (hts _ w3) (hts _ w1) m5 ⟨hR.1, by show 8 + (maxL' + 11) + 64 * f ≤ _; omega⟩
  exact mj_call (va_runS (As := As) (rest := r) ⟨hx, hb, hml.trans hL.symm, hown, hts⟩ hM ⟨cb, hts _ w2⟩ ⟨mj_blind, jd_pre hX hbs hW hS⟩ rfl hn rfl hst (lv_room (mj_cat8 hr)) hd ⟨hc.1, hc.2⟩) hS kk
theorem jd_V {y' : MethodName} {cc' : ByteArray} {maxL' n idx b : Nat} {ret' : Option FieldType} {Q' : mj_Q} (B : jd_B p s m args meth c y cc maxL ret D base sa av) (hL : ls.size = maxL) (hW : mj_W D base s μ H) (hS : va_S (fun q => base ≤ q) s.heap H locs)
    (hM : Met l y' (jd_ws y' cc' maxL' ret') (jd_rm f) (va_Pc (.ref b :: As) (mj_PP D base sa av μ)) (mj_QQ D base Q') 0 0 (fun q => base ≤ q))
    (w1 : Cond.methodLink y.cls idx y' ∈ mj_gw) (w2 : Cond.instanceMethod y' ∈ mj_gw) (w5 : Cond.selects y'.cls y' y' ∈ mj_gw) (w3 : Cond.initialized y'.cls ∈ mj_gw) (w4 : Cond.code y' cc' maxL' ret' ∈ mj_gw) (m5 : y'.cls ≠ "java/lang/invoke/MethodHandle" ∧ y'.cls ≠ "java/lang/invoke/VarHandle" ∧ (parseMethodDescriptor y'.desc).map (fun d => d.parameters.length) = some n) (hm : maxL' ≤ 40) (hR : f + 1 ≤ R.frames ∧ 64 * (f + 1) ≤ R.locals) (hc : 0 ≤ R.cells ∧ 0 ≤ R.slots)
    (hrec : ∃ cell : Cell, H[b]? = some cell ∧ cell.vm.isStatics = false ∧ s.vm.findClass y'.cls = some cell.cls) (hd : decode cc pc = .ok (.invokevirtual idx, 3)) (hn : As.length = n) (hr : r.length ≤ 4) (hst : st = As.reverse ++ .ref b :: r)
    (kk : ∀ (v : Option Value) (μ' : mj_M) (H1 : Heap) (locs1 : List Loc), Q' v μ' → mj_W D base s μ' H1 → va_S (fun q => base ≤ q) s.heap H1 locs1 → W p l e R s m args below meth c H1 locs1 0 0 QQ (F0 m (pc + 3) ls (v.toList ++ r))) : W p l e R s m args below meth c H locs 0 0 QQ (F0 m pc ls st) := by
  obtain ⟨hx, hb, hml, -, hown, hts, hX, hbs, -⟩ := B
  have cw : CallW R s args y.cls y'.cls idx y' cc' maxL' ret' (jd_ws y' cc' maxL' ret') (jd_rm f) 0 0 n := cwV (Ts := mj_gw) n hts (mj_gin (fun w hw => by
        rcases List.mem_append.mp hw with h | h
        · simp only [List.mem_cons, List.mem_nil_iff, or_false] at h
          rcases h with rfl | rfl | rfl | rfl
          · exact w1
          · exact w2
          · exact w5
          · exact w3
        · exact (List.mem_cons.mp h).elim (fun q => by rw [q]; exact w4) id)) rfl rfl rfl ⟨rfl, m5.1, m5.2.1, m5.2.2⟩ ⟨hR.1, by show 8 + (maxL' + 11) + 64 * f ≤ _; omega⟩
  exact mj_call (va_runV (As := As) (rest := r) (b := b) ⟨hx, hb, hml.trans hL.symm, hown, hts⟩ hM cw ⟨mj_blind, hrec, jd_pre hX hbs hW hS⟩ rfl hn rfl hst (lv_room (mj_cat8 hr)) hd ⟨hc.1, hc.2⟩) hS kk
/-! ### the five -/
theorem jd_coder {x : Nat} (hx20 : x < 20) (hQ : Q (some (.int 0)) μ) : Met l yJ0_coder_7d493 (jd_ws yJ0_coder_7d493 cJ0_coder_7d493 1 (some .byte)) (jd_rm f) (va_Pc [.ref (sa x)] (mj_PP D base sa av μ)) (mj_QQ D base Q) 0 0 (fun q => base ≤ q) := by
  refine jd_met (by decide) (by simp [mj_ent]) ?_
  intro p e s m below meth c ls B hW hL
  obtain ⟨hx, hb, hml, hr, hown, hts, hX, hbs, hlk⟩ := id B
  refine va_gets hx hb hX.2.2.2.2.2.2.1 va_S.rf hown (hts _ jw_f38) (fun _ h => h) dJ0_coder_7d493_0 ?_
  refine mj_brch (len := 0) (tgt := 13) hx hb dJ0_coder_7d493_3 rfl rfl (fun h => absurd h (by simp [mj_ic])) (fun _ => ?_)
  refine mj_pure hx hb dJ0_coder_7d493_6 rfl rfl hL (fun ls1 hL1 => ?_)
  refine vk_getf hx hb (hX.2.2.2.2.1.1 x hx20).2.1 va_S.rf hown (hts _ jw_f15) (fun _ h => h) dJ0_coder_7d493_7 ?_
  refine mj_brch (len := 0) (tgt := 14) hx hb dJ0_coder_7d493_10 rfl rfl (fun _ => ?_) (fun h => absurd trivial h)
  exact jd_ret B rfl hQ hW va_S.rf dJ0_coder_7d493_14
theorem jd_latin {x : Nat} (hx20 : x < 20) (hQ : Q (some (.int 1)) μ) : Met l yJ0_isLatin1_aae02 (jd_ws yJ0_isLatin1_aae02 cJ0_isLatin1_aae02 1 (some .boolean)) (jd_rm f) (va_Pc [.ref (sa x)] (mj_PP D base sa av μ)) (mj_QQ D base Q) 0 0 (fun q => base ≤ q) := by
  refine jd_met (by decide) (by simp [mj_ent]) ?_
  intro p e s m below meth c ls B hW hL
  obtain ⟨hx, hb, hml, hr, hown, hts, hX, hbs, hlk⟩ := id B
  refine va_gets hx hb hX.2.2.2.2.2.2.1 va_S.rf hown (hts _ jw_f38) (fun _ h => h) dJ0_isLatin1_aae02_0 ?_
  refine mj_brch (len := 0) (tgt := 17) hx hb dJ0_isLatin1_aae02_3 rfl rfl (fun h => absurd h (by simp [mj_ic])) (fun _ => ?_)
  refine mj_pure hx hb dJ0_isLatin1_aae02_6 rfl rfl hL (fun ls1 hL1 => ?_)
  refine vk_getf hx hb (hX.2.2.2.2.1.1 x hx20).2.1 va_S.rf hown (hts _ jw_f15) (fun _ h => h) dJ0_isLatin1_aae02_7 ?_
  refine mj_brch (len := 0) (tgt := 17) hx hb dJ0_isLatin1_aae02_10 rfl rfl (fun h => absurd rfl h) (fun _ => ?_)
  refine mj_pure hx hb dJ0_isLatin1_aae02_13 rfl rfl hL1 (fun ls2 hL2 => ?_)
  refine mj_brch (len := 0) (tgt := 18) hx hb dJ0_isLatin1_aae02_14 rfl rfl (fun _ => ?_) (fun h => absurd trivial h)
  exact jd_ret B rfl hQ hW va_S.rf dJ0_isLatin1_aae02_18
theorem jd_pcheck {j : Int32} {N : Nat} {v : Value} (hv : v ≠ mj_u) (hvc : v.category = 1) (hj : ¬ j < 0) (hjn : j < Int32.ofNat N) (hQ : Q (some (.int j)) μ) (hent : mj_ent [.int j, .int (Int32.ofNat N), v] = [.int j, .int (Int32.ofNat N), v]) : Met l yJ3_checkIndex_8e157 (jd_ws yJ3_checkIndex_8e157 cJ3_checkIndex_8e157 3 (some .int)) (jd_rm f) (va_Pc [.int j, .int (Int32.ofNat N), v] (mj_PP D base sa av μ)) (mj_QQ D base Q) 0 0 (fun q => base ≤ q) := by
  refine jd_met (by decide) (by rw [hent]; exact Nat.le_refl _) ?_
  rw [hent]
  intro p e s m below meth c ls B hW hL
  obtain ⟨hx, hb, hml, hr, hown, hts, hX, hbs, hlk⟩ := id B
  refine mj_pure hx hb dJ3_checkIndex_8e157_0 rfl rfl hL (fun ls1 hL1 => ?_)
  refine mj_brch (len := 0) (tgt := 9) hx hb dJ3_checkIndex_8e157_1 rfl rfl (fun h => absurd h hj) (fun _ => ?_)
  refine mj_pure hx hb dJ3_checkIndex_8e157_4 rfl rfl hL1 (fun ls2 hL2 => ?_)
  refine mj_pure hx hb dJ3_checkIndex_8e157_5 rfl rfl hL2 (fun ls3 hL3 => ?_)
  refine mj_brch (len := 0) (tgt := 16) hx hb dJ3_checkIndex_8e157_6 rfl rfl (fun _ => ?_) (fun h => absurd hjn h)
  refine mj_pure hx hb dJ3_checkIndex_8e157_16 rfl rfl hL3 (fun ls4 hL4 => ?_)
  exact jd_ret B rfl hQ hW va_S.rf dJ3_checkIndex_8e157_17
theorem jd_check {j : Int32} {N : Nat} (hj : ¬ j < 0) (hjn : j < Int32.ofNat N) (hQ : Q none μ) : Met l yJ0_checkIndex_df160 (jd_ws yJ0_checkIndex_df160 cJ0_checkIndex_df160 2 none) (jd_rm (f + 1)) (va_Pc [.int j, .int (Int32.ofNat N)] (mj_PP D base sa av μ)) (mj_QQ D base Q) 0 0 (fun q => base ≤ q) := by
  refine jd_met (by decide) (by simp [mj_ent]) ?_
  intro p e s m below meth c ls B hW hL
  obtain ⟨hx, hb, hml, hr, hown, hts, hX, hbs, hlk⟩ := id B
  refine mj_pure hx hb dJ0_checkIndex_df160_0 rfl rfl hL (fun ls1 hL1 => ?_)
  refine mj_pure hx hb dJ0_checkIndex_df160_1 rfl rfl hL1 (fun ls2 hL2 => ?_)
  have fin : ∀ v : Value, v ≠ mj_u → v.category = 1 → mj_ent [.int j, .int (Int32.ofNat N), v] = [.int j, .int (Int32.ofNat N), v] → W p l e (jd_rm (f + 1)) s m (List.toArray [.int j, .int (Int32.ofNat N)]) below meth c s.heap [] 0 0 (MQ below (mj_QQ D base Q) (List.toArray [.int j, .int (Int32.ofNat N)]) s 0 0 (fun q => base ≤ q)) (F0 m 5 ls2 [v, .int (Int32.ofNat N), .int j]) := fun v h1 h2 h3 => by
    refine jd_S (r := []) (n := 3) B hL2.2.1 hW va_S.rf (jd_pcheck (f := f) (Q := fun v μ' => v = some (.int j) ∧ μ' = μ) h1 h2 hj hjn ⟨rfl, rfl⟩ h3) jw_l1059 jw_t3 jw_i3 jw_c5 (by decide +kernel) (by decide) ⟨Nat.le_refl _, Nat.le_refl _⟩ ⟨Nat.le_refl _, Nat.le_refl _⟩ dJ0_checkIndex_df160_5 rfl (by decide) rfl (fun v' μ' H1 locs1 q hW1 hS1 => ?_)
    obtain ⟨rfl, rfl⟩ := q
    refine mj_pure hx hb dJ0_checkIndex_df160_8 rfl rfl hL2 (fun ls3 hL3 => ?_)
    exact jd_vret B hQ hW1 hS1 dJ0_checkIndex_df160_9
  rcases hX.2.2.2.2.2.2.2 with hz | ⟨t, hz⟩
  · exact va_gets hx hb hz va_S.rf hown (hts _ jw_f1053) (fun _ h => h) dJ0_checkIndex_df160_2 (fin .null (by simp [mj_u]) rfl rfl)
  · exact va_gets hx hb hz va_S.rf hown (hts _ jw_f1053) (fun _ h => h) dJ0_checkIndex_df160_2 (fin (.ref t) (by simp [mj_u]) rfl rfl)
theorem jd_char1 {x : Nat} (hx20 : x < 20) {j : Int32} (hj : vp_in j (mj_sl.getD x 0)) {b : Int32} (hb0 : (mj_sby.getD x []).getD j.toNatClampNeg 0 = b) (hn : ((b &&& 255).toUInt32 % 65536).toInt32 = b) (hnar : narrow .char (.int b) = .int b) (h0 : ¬ j < 0) (h1 : j < Int32.ofNat (mj_sl.getD x 0)) (hQ : Q (some (.int b)) μ) : Met l yJ1_charAt_3b067 (jd_ws yJ1_charAt_3b067 cJ1_charAt_3b067 2 (some .char)) (jd_rm (f + 2)) (va_Pc [.ref (av x), .int j] (mj_PP D base sa av μ)) (mj_QQ D base Q) 0 0 (fun q => base ≤ q) := by
  refine jd_met (by decide) (by simp [mj_ent]) ?_
  intro p e s m below meth c ls B hW hL
  obtain ⟨hx, hb, hml, hr, hown, hts, hX, hbs, hlk⟩ := id B
  refine mj_pure hx hb dJ1_charAt_3b067_0 rfl rfl hL (fun ls1 hL1 => ?_)
  refine mj_pure hx hb dJ1_charAt_3b067_1 rfl rfl hL1 (fun ls2 hL2 => ?_)
  refine va_tlen hx hb (hX.2.2.2.2.1.1 x hx20).2.2.2 va_S.rf rfl dJ1_charAt_3b067_2 ?_
  refine jd_S (r := []) (n := 2) B hL2.2.1 hW va_S.rf (jd_check (f := f) (Q := fun v μ' => v = none ∧ μ' = μ) h0 h1 ⟨rfl, rfl⟩) jw_l9 jw_t2 jw_i0 jw_c4 (by decide +kernel) (by decide) ⟨Nat.le_refl _, Nat.le_refl _⟩ ⟨Nat.le_refl _, Nat.le_refl _⟩ dJ1_charAt_3b067_3 rfl (by decide) rfl (fun v' μ' H1 locs1 q hW1 hS1 => ?_)
  obtain ⟨rfl, rfl⟩ := q
  refine mj_pure hx hb dJ1_charAt_3b067_6 rfl rfl hL2 (fun ls3 hL3 => ?_)
  refine mj_pure hx hb dJ1_charAt_3b067_7 rfl rfl hL3 (fun ls4 hL4 => ?_)
  refine va_tb hx hb (hX.2.2.2.2.1.1 x hx20).2.2.2 hS1 hj (v := .int b) (by rw [hb0]) dJ1_charAt_3b067_8 ?_
  refine mj_pure hx hb dJ1_charAt_3b067_9 rfl rfl hL4 (fun ls5 hL5 => ?_)
  refine mj_pure hx hb dJ1_charAt_3b067_12 rfl rfl hL5 (fun ls6 hL6 => ?_)
  refine lv_i2c hx hb dJ1_charAt_3b067_13 hn ?_
  exact jd_ret B hnar hQ hW1 hS1 dJ1_charAt_3b067_14
theorem jd_ok : ∀ x, x < 20 → ∀ j, j < mj_sl.getD x 0 → ((((mj_sby.getD x []).getD j 0) &&& 255).toUInt32 % 65536).toInt32 = (mj_sby.getD x []).getD j 0 ∧ narrow .char (.int ((mj_sby.getD x []).getD j 0)) = .int ((mj_sby.getD x []).getD j 0) := by decide +kernel
theorem jd_len31 : ∀ x, x < 20 → mj_sl.getD x 0 < 100 := by decide +kernel
theorem jd_shr : ∀ x, x < 20 → Int32.ofNat (mj_sl.getD x 0) >>> ((0 : Int32) &&& 31) = Int32.ofNat (mj_sl.getD x 0) := by decide +kernel
theorem jd_lt {j : Int32} {N : Nat} (hN : N < 100) (h : vp_in j N) : ¬ j < 0 ∧ j < Int32.ofNat N := by
  unfold vp_in at h
  rw [not_or] at h
  obtain ⟨k, hk, rfl⟩ := nI_of h.1
  refine ⟨h.1, ?_⟩
  rw [nI_clamp hk] at h
  exact nI_lt (b := N) (by omega) (by omega)
/-- String.length -/
theorem jd_length {x : Nat} (hx20 : x < 20) (hQ : Q (some (.int (Int32.ofNat (mj_sl.getD x 0)))) μ) : Met l (mj_y 276) (mj_ws 276) (jd_rm (f + 1)) (va_Pc [.ref (sa x)] (mj_PP D base sa av μ)) (mj_QQ D base Q) 0 0 (fun q => base ≤ q) := by
  show Met l yJ0_length_8abf5 (jd_ws yJ0_length_8abf5 cJ0_length_8abf5 1 (some .int)) _ _ _ _ _ _
  refine jd_met (by decide) (by simp [mj_ent]) ?_
  intro p e s m below meth c ls B hW hL
  obtain ⟨hx, hb, hml, hr, hown, hts, hX, hbs, hlk⟩ := id B
  refine mj_pure hx hb dJ0_length_8abf5_0 rfl rfl hL (fun ls1 hL1 => ?_)
  refine vk_getf hx hb (hX.2.2.2.2.1.1 x hx20).2.2.1 va_S.rf hown (hts _ jw_f9) (fun _ h => h) dJ0_length_8abf5_1 ?_
  refine va_tlen hx hb (hX.2.2.2.2.1.1 x hx20).2.2.2 va_S.rf rfl dJ0_length_8abf5_4 ?_
  refine mj_pure hx hb dJ0_length_8abf5_5 rfl rfl hL1 (fun ls2 hL2 => ?_)
  refine jd_V (r := [.int (Int32.ofNat (mj_sl.getD x 0))]) (As := []) (n := 0) (b := sa x) B hL2.2.1 hW va_S.rf (jd_coder (f := f) (Q := fun v μ' => v = some (.int 0) ∧ μ' = μ) hx20 ⟨rfl, rfl⟩) jw_l335 jw_n1 jw_s1 jw_i0 jw_c1 (by decide +kernel) (by decide) ⟨Nat.le_refl _, Nat.le_refl _⟩ ⟨Nat.le_refl _, Nat.le_refl _⟩ (vk_recv hX.2.2.2.2.1 hx20 va_S.rf) dJ0_length_8abf5_6 rfl (by simp) rfl (fun v' μ' H1 locs1 q hW1 hS1 => ?_)
  obtain ⟨rfl, rfl⟩ := q
  refine mj_pure hx hb dJ0_length_8abf5_9 rfl rfl hL2 (fun ls3 hL3 => ?_)
  show W p l e (jd_rm (f + 1)) s m _ below meth c H1 locs1 0 0 _ (F0 m 10 ls3 [.int (Int32.ofNat (mj_sl.getD x 0) >>> ((0 : Int32) &&& 31))])
  rw [jd_shr x hx20]
  exact jd_ret B rfl hQ hW1 hS1 dJ0_length_8abf5_10
/-- String.charAt -/
theorem jd_charAt {x : Nat} (hx20 : x < 20) {j : Int32} (hj : vp_in j (mj_sl.getD x 0)) (hQ : Q (some (.int ((mj_sby.getD x []).getD j.toNatClampNeg 0))) μ) : Met l (mj_y 277) (mj_ws 277) (jd_rm (f + 3)) (va_Pc [.ref (sa x), .int j] (mj_PP D base sa av μ)) (mj_QQ D base Q) 0 0 (fun q => base ≤ q) := by
  show Met l yJ0_charAt_5068e (jd_ws yJ0_charAt_5068e cJ0_charAt_5068e 2 (some .char)) _ _ _ _ _ _
  refine jd_met (by decide) (by simp [mj_ent]) ?_
  intro p e s m below meth c ls B hW hL
  obtain ⟨hx, hb, hml, hr, hown, hts, hX, hbs, hlk⟩ := id B
  have hjl := jd_lt (jd_len31 x hx20) hj
  have hjk : j.toNatClampNeg < mj_sl.getD x 0 := by unfold vp_in at hj; omega
  obtain ⟨o1, o2⟩ := jd_ok x hx20 _ hjk
  refine mj_pure hx hb dJ0_charAt_5068e_0 rfl rfl hL (fun ls1 hL1 => ?_)
  refine jd_V (r := []) (As := []) (n := 0) (b := sa x) (f := f) B hL1.2.1 hW va_S.rf (jd_latin (Q := fun v μ' => v = some (.int 1) ∧ μ' = μ) hx20 ⟨rfl, rfl⟩) jw_l492 jw_n2 jw_s2 jw_i0 jw_c2 (by decide +kernel) (by decide) ⟨by show f + 1 ≤ f + 3; omega, by show 64 * (f + 1) ≤ 64 * (f + 3); omega⟩ ⟨Nat.le_refl _, Nat.le_refl _⟩ (vk_recv hX.2.2.2.2.1 hx20 va_S.rf) dJ0_charAt_5068e_1 rfl (by decide) rfl (fun v' μ' H1 locs1 q hW1 hS1 => ?_)
  obtain ⟨rfl, rfl⟩ := q
  refine mj_brch (len := 0) (tgt := 16) hx hb dJ0_charAt_5068e_4 rfl rfl (fun h => absurd h (by simp [mj_ic])) (fun _ => ?_)
  refine mj_pure hx hb dJ0_charAt_5068e_7 rfl rfl hL1 (fun ls2 hL2 => ?_)
  refine vk_getf hx hb (hX.2.2.2.2.1.1 x hx20).2.2.1 hS1 hown (hts _ jw_f9) (fun _ h => h) dJ0_charAt_5068e_8 ?_
  refine mj_pure hx hb dJ0_charAt_5068e_11 rfl rfl hL2 (fun ls3 hL3 => ?_)
  refine jd_S (r := []) (n := 2) (f := f + 2) B hL3.2.1 hW1 hS1 (jd_char1 (f := f) (Q := fun v μ' => v = some (.int ((mj_sby.getD x []).getD j.toNatClampNeg 0)) ∧ μ' = _) hx20 hj rfl o1 o2 hjl.1 hjl.2 ⟨rfl, rfl⟩) jw_l495 jw_t1 jw_i1 jw_c3 (by decide +kernel) (by decide) ⟨Nat.le_refl _, Nat.le_refl _⟩ ⟨Nat.le_refl _, Nat.le_refl _⟩ dJ0_charAt_5068e_12 rfl (by decide) rfl (fun v' μ2 H2 locs2 q hW2 hS2 => ?_)
  obtain ⟨rfl, q2⟩ := q
  exact jd_ret B o2 hQ (by rw [← q2]; exact hW2) hS2 dJ0_charAt_5068e_15
end JD
