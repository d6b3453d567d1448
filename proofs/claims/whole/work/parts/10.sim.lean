section MJT
variable {p : Program} {l : Launch} {e : Env} {R : Room} {s : State} {m : MethodId} {args : Array Value} {below : List Frame} {meth : Method} {c : Code} {H : Heap} {locs : List Loc} {k z : Nat} {QQ : State → Prop}
variable {pc i d : Nat} {ls : Array Slot} {st st' : List Value} {D : va_G} {base : Nat} {sa av : Nat → Nat} {μ μ' : mj_M} {ins : Instr} {len sl : Nat} {g : Prop}
theorem mj_mk (C : mj_C p s m args c (mj_b i) D (mj_o i)) (hbs : base ≤ s.heap.size) (hW : mj_W D base s μ H) (hS : va_S (fun q => base ≤ q) s.heap H locs) (hd : decode (mj_b i) pc = .ok (ins, len)) (ha : mj_a (mj_o i) ins st μ = some (sl, g, st', μ', len)) (hg : g) (hc : k + 1 ≤ R.cells) (hs : z + sl ≤ R.slots)
    (kk : ∀ H1 : Heap, mj_W D base s μ' H1 → va_S (fun q => base ≤ q) s.heap H1 locs → W p l e R s m args below meth c H1 locs (k + 1) (z + sl) QQ (F0 m (pc + len) ls st')) : W p l e R s m args below meth c H locs k z QQ (F0 m pc ls st) := by
  obtain ⟨n, K, FI, FL, FR, AI, AL, AR⟩ := μ
  unfold mj_a at ha
  simp only at ha
  split at ha
  · split at ha
    · next hp => cases ha; exact mj_newc C hW hS hbs hp hc hs hd kk
    · cases ha
  · split at ha
    · split at ha
      · cases ha; exact mj_newi C hW hS hbs hg.1 hg.2 hc hs hd kk
      · cases ha; exact mj_newb C hW hS hbs hg.1 hg.2 hc hs hd kk
      · cases ha; exact mj_newl C hW hS hbs hg.1 hg.2 hc hs hd kk
      · cases ha
    · cases ha
  · cases ha
theorem mj_toNat {q : Int} (h : 0 ≤ q) : q = ((q.toNat : Nat) : Int) := by omega
/-- the machine follows WP -/
theorem mj_sim {Q : mj_Q} (C : mj_C p s m args c (mj_b i) D (mj_o i)) (hml : c.maxLocals = mj_mx i) (hini : mj_ini i = true → meth.name = "<init>") (hbs : base ≤ s.heap.size) (hX : mj_X D base sa av s s.heap) (hRc : R.cells = (mj_al i).1) (hRs : R.slots = (mj_al i).2) (hRf : d + 1 ≤ R.frames) (hRl : 64 * (d + 1) ≤ R.locals)
    (hcal : ∀ (x : Nat) (As : List Value) (μ : mj_M) (Q' : mj_Q), EV sa d x As μ Q' → Met l (mj_y x) (mj_ws x) (mj_rm d x) (va_Pc As (mj_PP D base sa av μ)) (mj_QQ D base Q') (mj_al x).1 (mj_al x).2 (fun q => base ≤ q))
    (hret : ∀ (ins : Instr) (pc : Nat) (H : Heap) (ls : Array Slot) (locs : List Loc) (k z : Nat) (st : List Value) (g : Prop) (v : Option Value) (μ : mj_M), decode (mj_b i) pc = .ok (ins, 1) → mj_re i ins st = some (g, v) → g → Q v μ → k ≤ R.cells → z ≤ R.slots → mj_W D base s μ H → va_S (fun q => base ≤ q) s.heap H locs → W p l e R s m args below meth c H locs k z QQ (F0 m pc ls st))
    {L : List Value} (h : WP sa (EV sa d) i Q k z pc L st μ) (hk : k ≤ R.cells) (hz : z ≤ R.slots) (hW : mj_W D base s μ H) (hL : mj_L ls (mj_mx i) L) (hS : va_S (fun q => base ≤ q) s.heap H locs) : W p l e R s m args below meth c H locs k z QQ (F0 m pc ls st) := by
  refine h (fun k z pc L st μ => ∀ (H : Heap) (ls : Array Slot) (locs : List Loc), k ≤ R.cells → z ≤ R.slots → mj_W D base s μ H → mj_L ls (mj_mx i) L → va_S (fun q => base ≤ q) s.heap H locs → W p l e R s m args below meth c H locs k z QQ (F0 m pc ls st)) ?_ H ls locs hk hz hW hL hS
  clear h hk hz hW hL hS
  intro k z pc L st μ h H ls locs hk hz hW hL hS
  obtain ⟨ins, len, hd, h1⟩ := h
  obtain ⟨hx, hb, -⟩ := id C
  have hml' : c.maxLocals = ls.size := by rw [hml]; exact hL.2.1.symm
  unfold mj_1 at h1
  split at h1
  · next op len' hp =>
    obtain ⟨rfl, q, ho, hP⟩ := h1
    exact mj_pure hx hb hd hp ho hL (fun ls' h' => hP H ls' locs hk hz hW h' hS)
  · split at h1
    · next cnd off st' hp =>
      obtain ⟨rfl, h0, ht, hf⟩ := h1
      exact mj_brch (len := 0) hx hb hd hp (mj_toNat h0) (fun q => ht q H ls locs hk hz hW hL hS) (fun q => hf q H ls locs hk hz hW hL hS)
    · split at h1
      · next g st' μ' len' hp =>
        obtain ⟨rfl, hg, hP⟩ := h1
        exact mj_heap C hml' hini hX.2.2.2.1 (by omega) (by omega) hk hz hW hS hd hp hg (fun H1 locs1 w1 s1 => hP H1 ls locs1 hk hz w1 hL s1)
      · split at h1
        · next x As r hp =>
          obtain ⟨rfl, hr, hal, hE⟩ := h1
          have hf : k + (mj_al x).1 ≤ R.cells ∧ z + (mj_al x).2 ≤ R.slots := by
            rcases hal with h0 | h0
            · rw [h0]; exact ⟨hk, hz⟩
            · rw [hRc, hRs]; exact h0
          exact mj_inv C hml' hX hbs hRf hRl hW hS hcal hd hp hr hf hE (fun v μ' H1 locs1 q w1 s1 => q H1 ls locs1 hf.1 hf.2 w1 hL s1)
        · split at h1
          · next g v hp =>
            obtain ⟨rfl, hg, hq⟩ := h1
            exact hret ins pc H ls locs k z st g v μ hd hp hg hq hk hz hW hS
          · split at h1
            · next sl g st' μ' len' hp =>
              obtain ⟨rfl, hg, g1, g2, hP⟩ := h1
              exact mj_mk C hbs hW hS hd hp hg (by rw [hRc]; exact g1) (by rw [hRs]; exact g2) (fun H1 w1 s1 => hP H1 ls locs (by rw [hRc]; exact g1) (by rw [hRs]; exact g2) w1 hL s1)
            · split at h1
              · next dd lo hi offs x r hp =>
                unfold mj_sw at hp
                split at hp
                · cases hp
                  by_cases hlo : x.toInt < lo
                  · obtain ⟨g1, g2⟩ := h1.2 (Or.inl hlo)
                    exact lv_tableOut hx hb hd (Or.inl hlo) (mj_toNat g1) (g2 H ls locs hk hz hW hL hS)
                  · by_cases hhi : hi < x.toInt
                    · obtain ⟨g1, g2⟩ := h1.2 (Or.inr hhi)
                      exact lv_tableOut hx hb hd (Or.inr hhi) (mj_toNat g1) (g2 H ls locs hk hz hW hL hS)
                    · obtain ⟨off, g0, g1, g2⟩ := h1.1 hlo hhi
                      exact lv_tableIn hx hb hd hlo hhi g0 (mj_toNat g1) (g2 H ls locs hk hz hW hL hS)
                · cases hp
              · exact h1.elim
end MJT
theorem mj_ent_len : ∀ vs : List Value, (lg_sl vs).length = (mj_ent vs).length
  | [] => rfl
  | v :: r => by
    have h := mj_ent_len r
    cases v <;> simp [lg_sl, mj_ent, Value.category] at h ⊢ <;> omega
theorem mj_ent_args : ∀ (vs : List Value) (i0 j : Nat) (w : Value), (mj_ent vs)[j]? = some w → w ≠ mj_u → (i0 + j, w) ∈ lv_args i0 vs
  | [], i0, j, w, h, _ => by simp [mj_ent] at h
  | v :: r, i0, j, w, h, hw => by
    have one : ∀ (hv : v.category = 1) (he : mj_ent (v :: r) = v :: mj_ent r), (i0 + j, w) ∈ lv_args i0 (v :: r) := by
      intro hv he
      rw [he] at h
      unfold lv_args
      rw [if_neg (by omega)]
      cases j with
      | zero => simp at h; subst h; exact List.mem_cons_self
      | succ j =>
        have := mj_ent_args r (i0 + 1) j w (by simpa using h) hw
        rw [show i0 + (j + 1) = i0 + 1 + j by omega]
        exact List.mem_cons_of_mem _ this
    have two : ∀ (hv : v.category = 2) (he : mj_ent (v :: r) = v :: mj_u :: mj_ent r), (i0 + j, w) ∈ lv_args i0 (v :: r) := by
      intro hv he
      rw [he] at h
      unfold lv_args
      rw [if_pos hv]
      match j with
      | 0 => simp at h; subst h; exact List.mem_cons_self
      | 1 => simp at h; exact absurd h.symm hw
      | j + 2 =>
        have := mj_ent_args r (i0 + 2) j w (by simpa using h) hw
        rw [show i0 + (j + 2) = i0 + 2 + j by omega]
        exact List.mem_cons_of_mem _ this
    cases v with
    | long x => exact two rfl rfl
    | double x => exact two rfl rfl
    | int x => exact one rfl rfl
    | float x => exact one rfl rfl
    | null => exact one rfl rfl
    | ref x => exact one rfl rfl
    | retAddr x => exact one rfl rfl
theorem mj_entry {i : Nat} {As : List Value} (h : (mj_ent As).length ≤ mj_mx i) : mj_L ((lg_sl As ++ List.replicate (mj_mx i - (lg_sl As).length) Slot.unset).toArray) (mj_mx i) (mj_en i As) := by
  have hl := lv_entry As (n := mj_mx i) (by rw [mj_ent_len]; exact h)
  refine ⟨by simp [mj_en]; omega, hl.1, hl.2.1, fun q hq => ?_⟩
  obtain ⟨k, w⟩ := q
  obtain ⟨h1, h2⟩ := mj_l_mem.mp hq
  apply hl.2.2
  unfold mj_en at h1
  by_cases hk : k < (mj_ent As).length
  · rw [List.getElem?_append_left hk] at h1
    have := mj_ent_args As 0 k w h1 h2
    simpa using this
  · rw [List.getElem?_append_right (by omega)] at h1
    have := List.mem_of_getElem? h1
    rw [List.mem_replicate] at this
    exact absurd this.2 h2
/-- the String methods that ride as the JDK's code: what is owed of them -/
def mj_Bi (l : Launch) (D : va_G) (base : Nat) (sa av : Nat → Nat) : Prop := ∀ (d i : Nat) (As : List Value) (μ : mj_M) (Q : mj_Q), 8 ≤ d → mj_bi sa i As μ Q → Met l (mj_y i) (mj_ws i) (mj_rm (d + 1) i) (va_Pc As (mj_PP D base sa av μ)) (mj_QQ D base Q) (mj_al i).1 (mj_al i).2 (fun q => base ≤ q)
theorem mj_ret_ok {p : Program} {l : Launch} {e : Env} {R : Room} {s : State} {m : MethodId} {args : Array Value} {below : List Frame} {meth : Method} {c : Code} {D : va_G} {base i mc ms : Nat} {Q : mj_Q} (hx : p.tables.exec = Jvm.exec) (hb : c.code = mj_b i) (hr : meth.sig.returnType = mj_rt i) (hlocks : meth.locks = false) {ins : Instr} {pc : Nat} {H : Heap} {ls : Array Slot} {locs : List Loc} {k z : Nat} {st : List Value} {g : Prop} {v : Option Value} {μ : mj_M} (hd : decode (mj_b i) pc = .ok (ins, 1)) (hre : mj_re i ins st = some (g, v)) (hg : g) (hq : Q v μ) (hk : k ≤ mc) (hz : z ≤ ms) (hW : mj_W D base s μ H) (hS : va_S (fun q => base ≤ q) s.heap H locs) :
    W p l e R s m args below meth c H locs k z (MQ below (mj_QQ D base Q) args s mc ms (fun q => base ≤ q)) (F0 m pc ls st) := by
  refine W.widen hk hz ?_
  have hQ : ∀ t : State, t.heap = H → s.WarmedH t.vm → mj_QQ D base Q args s (.returned v) t := fun t ht hw => ⟨v, μ, rfl, hq, by rw [ht]; exact mj_W.moved hw.alike hW, hS.F ht⟩
  unfold mj_re at hre
  split at hre
  · split at hre
    · next hrt => cases hre; exact W.zret hx hb (hr.trans hrt) rfl hQ hS.2.2 hd
    · next v hrt =>
      cases hre
      refine W.zret hx hb (hr.trans hrt) ?_ hQ hS.2.2 hd
      rcases hg with rfl | rfl <;> rfl
    · cases hre
  · split at hre
    · next hrt => cases hre; exact W.lret hx hb (hr.trans hrt) hQ hS.2.2 hd
    · cases hre
  · split at hre
    · next hrt => cases hre; exact W.aret hx hb (hr.trans hrt) (Or.inl ⟨_, rfl⟩) (Or.inr ⟨_, rfl⟩) hQ hS.2.2 hd
    · cases hre
  · split at hre
    · next hrt => cases hre; exact W.vret hx hb (hr.trans hrt) hQ hS.2.2 hd
    · cases hre
  · cases hre
/-- every method that EV speaks of keeps its contract in the machine -/
theorem mj_met {l : Launch} {D : va_G} {base : Nat} {sa av : Nat → Nat} (hB : mj_Bi l D base sa av) : ∀ (d i : Nat) (As : List Value) (μ : mj_M) (Q : mj_Q), EV sa d i As μ Q → Met l (mj_y i) (mj_ws i) (mj_rm d i) (va_Pc As (mj_PP D base sa av μ)) (mj_QQ D base Q) (mj_al i).1 (mj_al i).2 (fun q => base ≤ q) := by
  intro d
  induction d with
  | zero => intro i As μ Q h; exact h.elim
  | succ d ih =>
    intro i As μ Q h
    rcases h with ⟨h0, h⟩ | ⟨h1, h2, h3, h4⟩
    · exact hB d i As μ Q h0 h
    · have hn : i < mj_n := by unfold mj_n; omega
      obtain ⟨m1, m2, m3, m4, m5, m6⟩ := mj_mok_all i hn
      refine Met.ofW (cc := mj_b i) (maxL := mj_mx i) (ret := mj_rt i) m4 rfl ?_
      intro p e s m args below meth c s₁ B hml hv
      obtain ⟨rfl, hbs, hX, hW⟩ := hv
      have hts := atoms_spec (ws := mj_ws i) B.pre
      have hts' : ∀ w ∈ mj_gw, w.before As.toArray s = true := fun w hw => hts w (List.mem_cons_of_mem _ hw)
      have hown : s.vm.findClass (mj_R (mj_o i)) = some m.cls := by rw [← m3]; exact findClass_of_methodNamed B.named
      have hlocks := B.notSynchronized
      have C : mj_C p s m As.toArray c (mj_b i) D (mj_o i) := ⟨B.exec, B.bytes, hown, hts', hX.1, hX.2.1, hX.2.2.1⟩
      have hini : mj_ini i = true → meth.name = "<init>" := fun q => by
        have h5 : meth.name = (mj_y i).name := (name_of_methodNamed B.named B.method).1
        rw [h5]
        simpa [mj_ini] using q
      rw [lg_entry_eq]
      exact mj_sim C hml hini hbs hX rfl rfl (Nat.le_refl _) (Nat.le_refl _) ih (fun ins pc H ls locs k z st g v μ hd hre hg hq hk hz hW hS => mj_ret_ok B.exec B.bytes B.returns hlocks hd hre hg hq hk hz hW hS) h4 (Nat.zero_le _) (Nat.zero_le _) hW (mj_entry h3) va_S.rf
