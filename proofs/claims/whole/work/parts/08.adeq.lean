def mj_ws (i : Nat) : List Cond := Cond.code (mj_y i) (mj_b i) (mj_mx i) (mj_rt i) :: mj_gw
def mj_rm (d i : Nat) : Room := { frames := d, cells := (mj_al i).1, slots := (mj_al i).2, locals := 64 * d }
theorem mj_gin {ws : List Cond} (h : ∀ w ∈ ws, w ∈ mj_gw) : GoodIn mj_gw ws := fun w hw => ⟨h w hw, good_of_word (List.mem_filter.mp (h w hw)).2⟩
theorem mj_ws_in {i : Nat} (h : i < mj_n) : ∀ w ∈ mj_ws i, w ∈ mj_gw := fun w hw => by
  rcases List.mem_cons.mp hw with rfl | hw
  · exact (mj_mok_all i h).1
  · exact hw
/-- what of the JDK doesn't change: that int[][] is there, two statics -/
def mj_ST (base : Nat) (U : State) (H : Heap) : Prop := (∀ a : Array Value, (Cond.arrayOver (.array .int)).before a U = true) ∧ va_Z "java/lang/String" "COMPACT_STRINGS" "Z" (.int 1) (fun q => base ≤ q) U H ∧ va_Zq "jdk/internal/util/Preconditions" "SIOOBE_FORMATTER" "Ljava/util/function/BiFunction;" (fun q => base ≤ q) U H
theorem mj_ST.moved {base : Nat} {u U : State} {H : Heap} (hvm : u.vm.Alike U.vm) (h : mj_ST base u H) : mj_ST base U H := ⟨fun a => Jvm.Stand.arrayOver_alikeB hvm (h.1 a), va_Z.moved hvm h.2.1, va_Zq.moved hvm h.2.2⟩
theorem mj_ST.kept {base : Nat} {U : State} {H H1 : Heap} (h : mj_ST base U H) (hq : ∀ a : Nat, a < H.size → ¬ base ≤ a → H1[a]? = H[a]?) : mj_ST base U H1 := ⟨h.1, va_Z.kept h.2.1 hq, va_Zq.kept h.2.2 hq⟩
/-- what doesn't change: links of nest mates, the classes, the String constants -/
def mj_X (D : va_G) (base : Nat) (sa av : Nat → Nat) (U : State) (H : Heap) : Prop := (∀ q ∈ mj_nF, va_Nw (mj_fq q) U) ∧ (∀ q ∈ mj_nM, va_Nw (mj_mq q) U) ∧ va_K D vwCl [] U ∧ (∀ q ∈ mj_sr, vk_R q.1 q.2.1 q.2.2.1 (sa q.2.2.2) U) ∧ vk_S 20 mj_sl mj_sby sa av (fun q => base ≤ q) U H ∧ mj_ST base U H
theorem mj_X.warm {D : va_G} {base : Nat} {sa av : Nat → Nat} {s U : State} {H : Heap} (hW : s.WarmedH U.vm) (h : mj_X D base sa av s H) : mj_X D base sa av U H :=
  ⟨fun q hq => va_Nw.warmF hW (h.1 q hq), fun q hq => va_Nw.warmM hW (h.2.1 q hq), va_K.moved hW.alike h.2.2.1, fun q hq => vk_R.warm hW (h.2.2.2.1 q hq), h.2.2.2.2.1.moved hW.alike, h.2.2.2.2.2.moved hW.alike⟩
theorem mj_X.same {D : va_G} {base : Nat} {sa av : Nat → Nat} {s U : State} {H : Heap} (hv : U.vm = s.vm) (h : mj_X D base sa av s H) : mj_X D base sa av U H :=
  ⟨fun q hq => va_Nw.same rfl hv.symm (h.1 q hq), fun q hq => va_Nw.same rfl hv.symm (h.2.1 q hq), va_K.moved (by rw [hv]; exact Vm.Alike.refl _) h.2.2.1, fun q hq => vk_R.same hv (h.2.2.2.1 q hq), h.2.2.2.2.1.moved (by rw [hv]; exact Vm.Alike.refl _), h.2.2.2.2.2.moved (by rw [hv]; exact Vm.Alike.refl _)⟩
theorem mj_X.kept {D : va_G} {base : Nat} {sa av : Nat → Nat} {U : State} {H H1 : Heap} (h : mj_X D base sa av U H) (hq : ∀ a : Nat, a < H.size → ¬ base ≤ a → H1[a]? = H[a]?) : mj_X D base sa av U H1 := ⟨h.1, h.2.1, h.2.2.1, h.2.2.2.1, h.2.2.2.2.1.kept hq, h.2.2.2.2.2.kept hq⟩
def mj_PP (D : va_G) (base : Nat) (sa av : Nat → Nat) (μ : mj_M) (U : State) : Prop := base ≤ U.heap.size ∧ mj_X D base sa av U U.heap ∧ mj_W D base U μ U.heap
def mj_QQ (D : va_G) (base : Nat) (Q : mj_Q) : Array Value → State → Outcome → State → Prop := fun _ st o t => ∃ r μ', o = .returned r ∧ Q r μ' ∧ mj_W D base t μ' t.heap ∧ va_F (fun q => base ≤ q) st t
theorem mj_blind {D : va_G} {base : Nat} {sa av : Nat → Nat} {μ : mj_M} {As : List Value} : FrameBlind (va_Pc As (mj_PP D base sa av μ)) := fun a U g mk h => ⟨h.1, h.2.1, mj_X.same rfl h.2.2.1, mj_W.moved (Vm.Alike.refl U.vm) h.2.2.2⟩
theorem mj_cat1 (v : Value) : v.category ≤ 2 := by cases v <;> simp [Value.category]
theorem mj_cat : ∀ r : List Value, (r.map fun v => v.category).sum ≤ 2 * r.length
  | [] => by simp
  | v :: r => by
    have h1 := mj_cat r
    have h2 := mj_cat1 v
    simp only [List.map_cons, List.sum_cons, List.length_cons]
    omega
theorem mj_cat8 {r : List Value} (h : r.length ≤ 4) : (r.map fun v => v.category).sum ≤ 8 := by have := mj_cat r; omega
theorem mj_fv_i {ci k j a : Nat} {x : Int32} {FI : Nat → Nat → Int32} {fl : Nat → Int64} {fr : Nat → Option Nat} (h : mj_ty ci k = .int ∨ mj_ty ci k = .boolean) : mj_fv ci j (fun f => mj_u2 FI (64 * ci + k) a x f a) fl fr = if j = k then .int x else mj_fv ci j (fun f => FI f a) fl fr := by
  by_cases hj : j = k
  · subst hj
    rcases h with h | h <;> simp [mj_fv, h, mj_u2]
  · have hne : ¬ 64 * ci + j = 64 * ci + k := by omega
    simp [mj_fv, mj_u2, hj]
theorem mj_fv_l {ci k j a : Nat} {x : Int64} {FL : Nat → Nat → Int64} {fi : Nat → Int32} {fr : Nat → Option Nat} (h : mj_ty ci k = .long) : mj_fv ci j fi (fun f => mj_u2 FL (64 * ci + k) a x f a) fr = if j = k then .long x else mj_fv ci j fi (fun f => FL f a) fr := by
  by_cases hj : j = k
  · subst hj
    simp [mj_fv, h, mj_u2]
  · simp [mj_fv, mj_u2, hj]
theorem mj_fv_r {ci k j a : Nat} {x : Option Nat} {FR : Nat → Nat → Option Nat} {fi : Nat → Int32} {fl : Nat → Int64} (h : (∃ n, mj_ty ci k = .object n) ∨ ∃ t, mj_ty ci k = .array t) : mj_fv ci j fi fl (fun f => mj_u2 FR (64 * ci + k) a x f a) = if j = k then va_rf x else mj_fv ci j fi fl (fun f => FR f a) := by
  by_cases hj : j = k
  · subst hj
    rcases h with ⟨n, h⟩ | ⟨n, h⟩ <;> simp [mj_fv, h, mj_u2]
  · simp [mj_fv, mj_u2, hj]
section MJS
variable {p : Program} {l : Launch} {e : Env} {R : Room} {s : State} {m : MethodId} {args : Array Value} {below : List Frame} {meth : Method} {c : Code} {H : Heap} {locs : List Loc} {k z : Nat} {Q : State → Prop}
variable {pc i d : Nat} {ls : Array Slot} {st st' : List Value} {D : va_G} {base : Nat} {sa av : Nat → Nat} {μ μ' : mj_M} {ins : Instr} {len : Nat} {g : Prop}
set_option maxRecDepth 100000 in
theorem mj_w_ob1 : Cond.instanceMethod objectInit ∈ mj_gw := mj_tb 29 (by decide +kernel) rfl
set_option maxRecDepth 100000 in
theorem mj_w_ob2 : Cond.code objectInit ⟨#[0xb1]⟩ 1 none ∈ mj_gw := mj_tb 30 rfl rfl
set_option maxRecDepth 100000 in
theorem mj_w_mth : Cond.initialized "java/lang/Math" ∈ mj_gw := mj_tb 7 (by decide +kernel) rfl
set_option maxRecDepth 100000 in
theorem mj_w_max1 : Cond.static Lib.Math.max.name ∈ mj_gw := mj_tb 289 (by decide +kernel) rfl
set_option maxRecDepth 100000 in
theorem mj_w_max2 : Cond.code Lib.Math.max.name Lib.Math.max.code 2 (some .int) ∈ mj_gw := mj_tb 290 rfl rfl
set_option maxRecDepth 100000 in
theorem mj_w_min1 : Cond.static Lib.Math.min.name ∈ mj_gw := mj_tb 423 (by decide +kernel) rfl
set_option maxRecDepth 100000 in
theorem mj_w_min2 : Cond.code Lib.Math.min.name Lib.Math.min.code 2 (some .int) ∈ mj_gw := mj_tb 424 rfl rfl
theorem mj_ldcwS (hx : p.tables.exec = Jvm.exec) {cc : ByteArray} (hb : c.code = cc) {own tx : String} {index q : Nat} {rest : List Value} (hown : s.vm.findClass own = some m.cls) (hZ : vk_R own index tx q s) (hdg : decode cc pc = .ok (.ldc_w index, 3))
    (kk : W p l e R s m args below meth c H locs k z Q (F0 m (pc + 3) ls (.ref q :: rest))) : W p l e R s m args below meth c H locs k z Q (F0 m pc ls rest) := by
  intro T hT X
  obtain ⟨t, a1, b1⟩ := kk T hT X
  exact ⟨t, X.ldcStringW hx hown (text := tx) (a := q) hZ.1 hZ.2 (g := F0 m pc ls rest) rfl (by rw [hb]; exact hdg) t a1, b1⟩
theorem mj_heap (C : mj_C p s m args c (mj_b i) D (mj_o i)) (hml : c.maxLocals = ls.size) (hini : mj_ini i = true → meth.name = "<init>") (hstr : ∀ q ∈ mj_sr, vk_R q.1 q.2.1 q.2.2.1 (sa q.2.2.2) s) (hRf : 1 ≤ R.frames) (hRl : 64 ≤ R.locals) (hRc : k ≤ R.cells) (hRs : z ≤ R.slots) (hW : mj_W D base s μ H) (hS : va_S (fun q => base ≤ q) s.heap H locs)
    (hd : decode (mj_b i) pc = .ok (ins, len)) (hh : mj_h sa (mj_o i) i ins st μ = some (g, st', μ', len)) (hg : g)
    (kk : ∀ (H1 : Heap) (locs1 : List Loc), mj_W D base s μ' H1 → va_S (fun q => base ≤ q) s.heap H1 locs1 → W p l e R s m args below meth c H1 locs1 k z Q (F0 m (pc + len) ls st')) : W p l e R s m args below meth c H locs k z Q (F0 m pc ls st) := by
  obtain ⟨n, K, FI, FL, FR, AI, AL, AR⟩ := μ
  obtain ⟨hx, hb, hown, hts, -⟩ := id C
  cases ins <;> simp only [mj_h, reduceCtorEq] at hh
  case getfield idx =>
    unfold mj_hget at hh
    split at hh
    · split at hh
      · split at hh
        · next hp ht => cases hh; exact mj_getf C hW hp ht hg hd (kk H locs hW hS)
        · cases hh
      · cases hh
    · cases hh
  case putfield idx =>
    unfold mj_hput at hh
    split at hh
    · next v a r =>
      split at hh
      · next t ci kf hp =>
        split at hh
        · next ht =>
          simp only [Option.map_eq_some_iff, Prod.mk.injEq] at hh
          obtain ⟨⟨g1, m1⟩, h1, rfl, rfl, rfl, rfl⟩ := hh
          have hf : (mj_T ci kf).2.2.2 = false ∨ (t = 1 ∧ ci = mj_o i ∧ meth.name = "<init>") := ht.2.imp id (fun q => ⟨q.1, q.2.1, hini q.2.2⟩)
          unfold mj_wrt at h1
          simp only at h1
          split at h1
          · next hty => cases h1; exact mj_putf C hW hp ht.1 hf hg (by rw [hty]; rfl) (by rw [hty]; rfl) hd (fun q hq => ⟨fun _ => mj_u2_2 hq, fun _ => rfl, fun _ => rfl⟩) (fun j _ => mj_fv_i (Or.inl hty)) hS (fun H1 locs1 a b => kk H1 locs1 a b)
          · next x hty =>
            cases h1
            refine mj_putf C hW hp ht.1 hf hg.1 ?_ ?_ hd (fun q hq => ⟨fun _ => mj_u2_2 hq, fun _ => rfl, fun _ => rfl⟩) (fun j _ => mj_fv_i (Or.inr hty)) hS (fun H1 locs1 a b => kk H1 locs1 a b)
            · rw [hty]; rcases hg.2 with rfl | rfl <;> rfl
            · rw [hty]; rcases hg.2 with rfl | rfl <;> rfl
          · next hty => cases h1; exact mj_putf C hW hp ht.1 hf hg (by rw [hty]; rfl) (by rw [hty]; rfl) hd (fun q hq => ⟨fun _ => rfl, fun _ => mj_u2_2 hq, fun _ => rfl⟩) (fun j _ => mj_fv_l hty) hS (fun H1 locs1 a b => kk H1 locs1 a b)
          · next nm q hty => cases h1; exact mj_putf C hW hp ht.1 hf hg (by rw [hty]; rfl) (by rw [hty]; rfl) hd (fun q hq => ⟨fun _ => rfl, fun _ => rfl, fun _ => mj_u2_2 hq⟩) (fun j _ => mj_fv_r (x := some q) (Or.inl ⟨_, hty⟩)) hS (fun H1 locs1 a b => kk H1 locs1 a b)
          · next nm q hty => cases h1; exact mj_putf C hW hp ht.1 hf hg (by rw [hty]; rfl) (by rw [hty]; rfl) hd (fun q hq => ⟨fun _ => rfl, fun _ => rfl, fun _ => mj_u2_2 hq⟩) (fun j _ => mj_fv_r (x := some q) (Or.inr ⟨_, hty⟩)) hS (fun H1 locs1 a b => kk H1 locs1 a b)
          · cases h1
        · cases hh
      · cases hh
    · cases hh
  case ldc idx =>
    unfold mj_hcon at hh
    split at hh
    · next hp => cases hh; exact lv_ldc hx hb hown (hts _ (mj_pool_sp hp)) hd (kk H locs hW hS)
    · next x y hp => cases hh; obtain ⟨tx, hin⟩ := mj_str_sp hp; exact va_ldcS (tx := tx) hx hb hown (hstr (mj_R (mj_o i), idx, tx, x) hin) hd (kk H locs hW hS)
    · cases hh
  case ldc_w idx =>
    unfold mj_hcon at hh
    split at hh
    · next hp => cases hh; exact lv_ldcw hx hb hown (hts _ (mj_pool_sp hp)) hd (kk H locs hW hS)
    · next x y hp => cases hh; obtain ⟨tx, hin⟩ := mj_str_sp hp; exact mj_ldcwS (tx := tx) hx hb hown (hstr (mj_R (mj_o i), idx, tx, x) hin) hd (kk H locs hW hS)
    · cases hh
  case ldc2_w idx =>
    unfold mj_hlon at hh
    split at hh
    · next hp => cases hh; exact lv_ldc2 hx hb hown (hts _ (mj_pool_sp hp)) hd (kk H locs hW hS)
    · cases hh
  case idiv =>
    unfold mj_hdiv at hh
    split at hh
    · cases hh; exact lv_idiv hx hb hd hg (kk H locs hW hS)
    · cases hh
  case irem =>
    unfold mj_hdiv at hh
    split at hh
    · cases hh; exact lv_irem hx hb hd hg (kk H locs hW hS)
    · cases hh
  case iaload =>
    unfold mj_hld at hh
    split at hh
    · cases hh; exact mj_iald C hW hg.1 hg.2 hd (kk H locs hW hS)
    · cases hh
  case baload =>
    unfold mj_hld at hh
    split at hh
    · cases hh; exact mj_bald C hW hg.1 hg.2 hd (kk H locs hW hS)
    · cases hh
  case laload =>
    unfold mj_hld at hh
    split at hh
    · cases hh; exact mj_lald C hW hg.1 hg.2 hd (kk H locs hW hS)
    · cases hh
  case aaload =>
    unfold mj_hld at hh
    split at hh
    · cases hh; exact mj_aald C hW hg.1 hg.2 hd (kk H locs hW hS)
    · cases hh
  case iastore =>
    unfold mj_hsti at hh
    split at hh
    · next heq => cases heq; cases hh; exact mj_iast C hW hS hg.1 hg.2 hd (fun H1 locs1 a b => kk H1 locs1 a b)
    · cases hh
  case bastore =>
    unfold mj_hsti at hh
    split at hh
    · next heq => cases heq; cases hh; exact mj_bast C hW hS hg.1 hg.2 hd (fun H1 locs1 a b => kk H1 locs1 a b)
    · cases hh
  case lastore =>
    unfold mj_hstl at hh
    split at hh
    · next heq => cases heq; cases hh; exact mj_last C hW hS hg.1 hg.2 hd (fun H1 locs1 a b => kk H1 locs1 a b)
    · cases hh
  case arraylength =>
    unfold mj_hlen at hh
    split at hh
    · cases hh; exact mj_alen C hW hg hd (kk H locs hW hS)
    · cases hh
  case invokestatic idx =>
    unfold mj_hst at hh
    split at hh
    · next y1 y2 hp =>
      split at hh
      · next heq =>
        cases heq; cases hh
        obtain ⟨g1, g2, g3, g4, g5, g6, g7, g8⟩ := hg
        have hw := mj_pool_sp hp
        have c8 := mj_cat8 g8
        have nf : nativeFrameWords "java/lang/System" "arraycopy" 5 + 11 ≤ 56 := by decide
        exact mj_copy C hml hW hS hp g1 g2 g3 g4 g5 g6 g7 hRf (by omega) hd (fun H1 locs1 a b => kk H1 locs1 a b)
      · cases hh
    · next y1 y2 hp =>
      split at hh
      · cases hh
        have c8 := mj_cat8 hg
        exact va_mmax hx hb hml hown (hts _ (mj_pool_sp hp)) (hts _ mj_w_max1) (hts _ mj_w_mth) (hts _ mj_w_max2) hRf (by omega) hRc hRs hd (kk H locs hW hS)
      · cases hh
    · next y1 y2 hp =>
      split at hh
      · cases hh
        have c8 := mj_cat8 hg
        exact va_mmin hx hb hml hown (hts _ (mj_pool_sp hp)) (hts _ mj_w_min1) (hts _ mj_w_mth) (hts _ mj_w_min2) hRf (by omega) hRc hRs hd (kk H locs hW hS)
      · cases hh
    · cases hh
  case invokespecial idx =>
    unfold mj_hsp at hh
    split at hh
    · next y1 y2 hp =>
      split at hh
      · cases hh
        have c8 := mj_cat8 hg
        exact W.objInit hx hb hown (hts _ (mj_pool_sp hp)) (hts _ mj_w_ob1) (hts _ mj_w_ob2) rfl (by rw [hml]) rfl hd hRf (by show 2 * 0 + _ + 12 ≤ _; omega) (kk H locs hW hS)
      · cases hh
    · cases hh
end MJS
