abbrev vwCl : List vw_C := [(RX0, TX0, 13), (RX1, TX1, 6), (RX2, TX2, 3), (RX3, TX3, 3), (RX4, TX4, 11), (RX5, TX5, 8), (RX6, TX6, 20), (RX7, TX7, 11), (RX8, TX8, 2), (RX9, TX9, 22), (RX10, TX10, 41)]
def mj_gw : List Cond := lw_tbl.filter goodWord
theorem mj_gw_in {w : Cond} (h : w ∈ lw_tbl) (g : goodWord w = true) : w ∈ mj_gw := List.mem_filter.mpr ⟨h, g⟩
theorem mj_good {cw : Cond} : GoodIn (cw :: mj_gw) mj_gw := fun w hw => ⟨List.mem_cons_of_mem _ hw, good_of_word (List.mem_filter.mp hw).2⟩
/-! ## locals: a list of values, retAddr 0 where nothing is known -/
def mj_u : Value := .retAddr 0
def mj_kl : Value → Value
  | .long _ => mj_u
  | .double _ => mj_u
  | v => v
def mj_s1 : Nat → Value → List Value → Option (List Value)
  | 0, v, _ :: r => some (v :: r)
  | 1, v, a :: _ :: r => some (mj_kl a :: v :: r)
  | k + 2, v, a :: r => (mj_s1 (k + 1) v r).map (a :: ·)
  | _, _, _ => none
def mj_s2 : Nat → Value → List Value → Option (List Value)
  | 0, v, _ :: _ :: r => some (v :: mj_u :: r)
  | 1, v, a :: _ :: _ :: r => some (mj_kl a :: v :: mj_u :: r)
  | k + 2, v, a :: r => (mj_s2 (k + 1) v r).map (a :: ·)
  | _, _, _ => none
theorem mj_kl_spec {a w : Value} (h : mj_kl a = w) (hw : w ≠ mj_u) : a = w ∧ w.category ≠ 2 := by
  cases a <;> simp [mj_kl, mj_u] at h hw <;> subst h <;> simp_all [Value.category, mj_u]
theorem mj_s1_spec : ∀ (i : Nat) (v : Value) (L L' : List Value), mj_s1 i v L = some L' → L'.length = L.length ∧ i < L.length ∧ ∀ (k : Nat) (w : Value), L'[k]? = some w → w ≠ mj_u → (k = i ∧ w = v) ∨ (k ≠ i ∧ L[k]? = some w ∧ ¬ (k + 1 = i ∧ w.category = 2))
  | 0, v, [], L', h => by simp [mj_s1] at h
  | 0, v, a :: r, L', h => by
    simp [mj_s1] at h
    subst h
    refine ⟨rfl, by simp, fun k w hk hw => ?_⟩
    cases k with
    | zero => simp at hk; exact Or.inl ⟨rfl, hk.symm⟩
    | succ k => exact Or.inr ⟨by omega, by simpa using hk, by omega⟩
  | 1, v, [], L', h => by simp [mj_s1] at h
  | 1, v, [a], L', h => by simp [mj_s1] at h
  | 1, v, a :: b :: r, L', h => by
    simp [mj_s1] at h
    subst h
    refine ⟨rfl, by simp, fun k w hk hw => ?_⟩
    match k with
    | 0 =>
      simp at hk
      have h2 := mj_kl_spec hk hw
      exact Or.inr ⟨by omega, by simp [h2.1], fun q => h2.2 q.2⟩
    | 1 => simp at hk; exact Or.inl ⟨rfl, hk.symm⟩
    | k + 2 => exact Or.inr ⟨by omega, by simpa using hk, by omega⟩
  | i + 2, v, [], L', h => by simp [mj_s1] at h
  | i + 2, v, a :: r, L', h => by
    simp only [mj_s1, Option.map_eq_some_iff] at h
    obtain ⟨r', hr, rfl⟩ := h
    obtain ⟨h1, h2, h3⟩ := mj_s1_spec (i + 1) v r r' hr
    refine ⟨by simp [h1], by simp; omega, fun k w hk hw => ?_⟩
    cases k with
    | zero => exact Or.inr ⟨by omega, by simpa using hk, by omega⟩
    | succ k =>
      rcases h3 k w (by simpa using hk) hw with ⟨e1, e2⟩ | ⟨e1, e2, e3⟩
      · exact Or.inl ⟨by omega, e2⟩
      · exact Or.inr ⟨by omega, by simpa using e2, fun q => e3 ⟨by omega, q.2⟩⟩
theorem mj_s2_spec : ∀ (i : Nat) (v : Value) (L L' : List Value), mj_s2 i v L = some L' → L'.length = L.length ∧ i + 1 < L.length ∧ ∀ (k : Nat) (w : Value), L'[k]? = some w → w ≠ mj_u → (k = i ∧ w = v) ∨ (k ≠ i ∧ k ≠ i + 1 ∧ L[k]? = some w ∧ ¬ (k + 1 = i ∧ w.category = 2))
  | 0, v, [], L', h => by simp [mj_s2] at h
  | 0, v, [a], L', h => by simp [mj_s2] at h
  | 0, v, a :: b :: r, L', h => by
    simp [mj_s2] at h
    subst h
    refine ⟨rfl, by simp, fun k w hk hw => ?_⟩
    match k with
    | 0 => simp at hk; exact Or.inl ⟨rfl, hk.symm⟩
    | 1 => simp at hk; exact absurd hk.symm hw
    | k + 2 => exact Or.inr ⟨by omega, by omega, by simpa using hk, by omega⟩
  | 1, v, [], L', h => by simp [mj_s2] at h
  | 1, v, [a], L', h => by simp [mj_s2] at h
  | 1, v, [a, b], L', h => by simp [mj_s2] at h
  | 1, v, a :: b :: c :: r, L', h => by
    simp [mj_s2] at h
    subst h
    refine ⟨rfl, by simp, fun k w hk hw => ?_⟩
    match k with
    | 0 =>
      simp at hk
      have h2 := mj_kl_spec hk hw
      exact Or.inr ⟨by omega, by omega, by simp [h2.1], fun q => h2.2 q.2⟩
    | 1 => simp at hk; exact Or.inl ⟨rfl, hk.symm⟩
    | 2 => simp at hk; exact absurd hk.symm hw
    | k + 3 => exact Or.inr ⟨by omega, by omega, by simpa using hk, by omega⟩
  | i + 2, v, [], L', h => by simp [mj_s2] at h
  | i + 2, v, a :: r, L', h => by
    simp only [mj_s2, Option.map_eq_some_iff] at h
    obtain ⟨r', hr, rfl⟩ := h
    obtain ⟨h1, h2, h3⟩ := mj_s2_spec (i + 1) v r r' hr
    refine ⟨by simp [h1], by simp; omega, fun k w hk hw => ?_⟩
    cases k with
    | zero => exact Or.inr ⟨by omega, by omega, by simpa using hk, by omega⟩
    | succ k =>
      rcases h3 k w (by simpa using hk) hw with ⟨e1, e2⟩ | ⟨e1, e2, e3, e4⟩
      · exact Or.inl ⟨by omega, e2⟩
      · exact Or.inr ⟨by omega, by omega, by simpa using e3, fun q => e4 ⟨by omega, q.2⟩⟩
def mj_l (L : List Value) : List (Nat × Value) := (L.zipIdx.map (fun q => (q.2, q.1))).filter (fun q => decide (q.2 ≠ mj_u))
theorem mj_l_mem {L : List Value} {k : Nat} {w : Value} : (k, w) ∈ mj_l L ↔ L[k]? = some w ∧ w ≠ mj_u := by
  simp only [mj_l, List.mem_filter, List.mem_map, decide_eq_true_eq, Prod.exists, Prod.mk.injEq]
  constructor
  · rintro ⟨⟨a, b, h, rfl, rfl⟩, h2⟩
    exact ⟨by simpa using List.mem_zipIdx' h |>.2.symm ▸ (by simp [List.mem_zipIdx' h |>.1]), h2⟩
  · rintro ⟨h, h2⟩
    exact ⟨⟨w, k, List.mk_mem_zipIdx_iff_getElem?.mpr h, rfl, rfl⟩, h2⟩
def mj_L (ls : Array Slot) (nL : Nat) (L : List Value) : Prop := L.length = nL ∧ lv_has ls nL (mj_l L)
theorem mj_L.at {ls : Array Slot} {nL : Nat} {L : List Value} (h : mj_L ls nL L) {k : Nat} {w : Value} (hk : L[k]? = some w) (hw : w ≠ mj_u) : ls[k]? = some (.val w) := h.2.2.2 (k, w) (mj_l_mem.mpr ⟨hk, hw⟩)
theorem mj_L.st1 {ls' : Array Slot} {nL i : Nat} {L L' : List Value} {v : Value} (hL : L.length = nL) (hs : mj_s1 i v L = some L') (h : lv_has ls' nL ((i, v) :: (mj_l L).filter (fun q => !(q.1 == i) && !(q.1 + 1 == i && q.2.category == 2)))) : mj_L ls' nL L' := by
  obtain ⟨h1, h2, h3⟩ := mj_s1_spec i v L L' hs
  refine ⟨h1.trans hL, h.1, h.2.1, fun q hq => ?_⟩
  obtain ⟨k, w⟩ := q
  obtain ⟨hk, hw⟩ := mj_l_mem.mp hq
  apply h.2.2
  rcases h3 k w hk hw with ⟨e1, e2⟩ | ⟨e1, e2, e3⟩
  · subst e1; subst e2; exact List.mem_cons_self
  · refine List.mem_cons_of_mem _ (List.mem_filter.mpr ⟨mj_l_mem.mpr ⟨e2, hw⟩, ?_⟩)
    simp [e1]
    exact Classical.not_and_iff_not_or_not.mp e3
theorem mj_L.st2 {ls' : Array Slot} {nL i : Nat} {L L' : List Value} {v : Value} (hL : L.length = nL) (hs : mj_s2 i v L = some L') (h : lv_has ls' nL ((i, v) :: (mj_l L).filter (fun q => !(q.1 == i) && (!(q.1 == i + 1) && !(q.1 + 1 == i && q.2.category == 2))))) : mj_L ls' nL L' := by
  obtain ⟨h1, h2, h3⟩ := mj_s2_spec i v L L' hs
  refine ⟨h1.trans hL, h.1, h.2.1, fun q hq => ?_⟩
  obtain ⟨k, w⟩ := q
  obtain ⟨hk, hw⟩ := mj_l_mem.mp hq
  apply h.2.2
  rcases h3 k w hk hw with ⟨e1, e2⟩ | ⟨e1, e0, e2, e3⟩
  · subst e1; subst e2; exact List.mem_cons_self
  · refine List.mem_cons_of_mem _ (List.mem_filter.mpr ⟨mj_l_mem.mpr ⟨e2, hw⟩, ?_⟩)
    simp [e1, e0]
    exact Classical.not_and_iff_not_or_not.mp e3
/-! ## instructions that touch locals and stack alone -/
abbrev mj_O : Type := List Value → List Value → Option (List Value × List Value)
def mj_ps (v : Value) : mj_O := fun L st => some (L, v :: st)
def mj_ldi (k : Nat) : mj_O := fun L st => match L[k]? with
  | some (.int x) => some (L, .int x :: st)
  | _ => none
def mj_ldl (k : Nat) : mj_O := fun L st => match L[k]? with
  | some (.long x) => some (L, .long x :: st)
  | _ => none
def mj_lda (k : Nat) : mj_O := fun L st => match L[k]? with
  | some (.ref x) => some (L, .ref x :: st)
  | _ => none
def mj_sti (k : Nat) : mj_O := fun L st => match st with
  | .int x :: r => (mj_s1 k (.int x) L).map (·, r)
  | _ => none
def mj_sta (k : Nat) : mj_O := fun L st => match st with
  | .ref x :: r => (mj_s1 k (.ref x) L).map (·, r)
  | _ => none
def mj_stl (k : Nat) : mj_O := fun L st => match st with
  | .long x :: r => (mj_s2 k (.long x) L).map (·, r)
  | _ => none
def mj_inc (k : Nat) (n : Int) : mj_O := fun L st => match L[k]? with
  | some (.int x) => (mj_s1 k (.int (x + Int32.ofInt n)) L).map (·, st)
  | _ => none
def mj_ii (f : Int32 → Int32 → Int32) : mj_O := fun L st => match st with
  | .int y :: .int x :: r => some (L, .int (f x y) :: r)
  | _ => none
def mj_ll (f : Int64 → Int64 → Int64) : mj_O := fun L st => match st with
  | .long y :: .long x :: r => some (L, .long (f x y) :: r)
  | _ => none
def mj_li (f : Int64 → Int32 → Int64) : mj_O := fun L st => match st with
  | .int y :: .long x :: r => some (L, .long (f x y) :: r)
  | _ => none
def mj_lc (f : Int64 → Int64 → Int32) : mj_O := fun L st => match st with
  | .long y :: .long x :: r => some (L, .int (f x y) :: r)
  | _ => none
def mj_dup : mj_O := fun L st => match st with
  | .int x :: r => some (L, .int x :: .int x :: r)
  | .ref x :: r => some (L, .ref x :: .ref x :: r)
  | _ => none
def mj_dup2 : mj_O := fun L st => match st with
  | .int x :: .ref y :: r => some (L, .int x :: .ref y :: .int x :: .ref y :: r)
  | _ => none
def mj_pop : mj_O := fun L st => match st with
  | .int _ :: r => some (L, r)
  | _ => none
def mj_cv {α β : Type} (g : Value → Option α) (w : β → Value) (f : α → β) : mj_O := fun L st => match st with
  | v :: r => (g v).map (fun x => (L, w (f x) :: r))
  | _ => none
def mj_gi : Value → Option Int32
  | .int x => some x
  | _ => none
def mj_gl : Value → Option Int64
  | .long x => some x
  | _ => none
/-- the instruction's step, and how many bytes it takes -/
def mj_p : Instr → Option (mj_O × Nat)
  | .iconst n => some (mj_ps (.int (Int32.ofInt n)), 1)
  | .bipush n => some (mj_ps (.int (Int8.ofInt n).toInt32), 2)
  | .sipush n => some (mj_ps (.int (Int16.ofInt n).toInt32), 3)
  | .lconst n => some (mj_ps (.long (Int64.ofNat (n : Nat))), 1)
  | .iload k => some (mj_ldi k, 2)
  | .iload_n k => some (mj_ldi k, 1)
  | .lload k => some (mj_ldl k, 2)
  | .lload_n k => some (mj_ldl k, 1)
  | .aload k => some (mj_lda k, 2)
  | .aload_n k => some (mj_lda k, 1)
  | .istore k => some (mj_sti k, 2)
  | .istore_n k => some (mj_sti k, 1)
  | .lstore k => some (mj_stl k, 2)
  | .lstore_n k => some (mj_stl k, 1)
  | .astore_n k => some (mj_sta k, 1)
  | .astore k => some (mj_sta k, 2)
  | .iinc k n => some (mj_inc k n, 3)
  | .dup => some (mj_dup, 1)
  | .dup2 => some (mj_dup2, 1)
  | .pop => some (mj_pop, 1)
  | .iadd => some (mj_ii (fun x y => x + y), 1)
  | .isub => some (mj_ii (fun x y => x - y), 1)
  | .imul => some (mj_ii (fun x y => x * y), 1)
  | .iand => some (mj_ii (fun x y => x &&& y), 1)
  | .ior => some (mj_ii (fun x y => x ||| y), 1)
  | .ixor => some (mj_ii (fun x y => x ^^^ y), 1)
  | .ishl => some (mj_ii (fun x y => x <<< (y &&& 31)), 1)
  | .ishr => some (mj_ii (fun x y => x >>> (y &&& 31)), 1)
  | .iushr => some (mj_ii (fun x y => (x.toUInt32 >>> (y.toUInt32 &&& Int32.toUInt32 31)).toInt32), 1)
  | .ladd => some (mj_ll (fun x y => x + y), 1)
  | .lsub => some (mj_ll (fun x y => x - y), 1)
  | .lmul => some (mj_ll (fun x y => x * y), 1)
  | .land => some (mj_ll (fun x y => x &&& y), 1)
  | .lor => some (mj_ll (fun x y => x ||| y), 1)
  | .lxor => some (mj_ll (fun x y => x ^^^ y), 1)
  | .lshl => some (mj_li (fun x y => x <<< (y.toInt64 &&& 63)), 1)
  | .lshr => some (mj_li (fun x y => x >>> (y.toInt64 &&& 63)), 1)
  | .lushr => some (mj_li (fun x y => (x.toUInt64 >>> (y.toInt64.toUInt64 &&& Int64.toUInt64 63)).toInt64), 1)
  | .lcmp => some (mj_lc lg_cmp, 1)
  | .i2l => some (mj_cv mj_gi Value.long (fun x : Int32 => x.toInt64), 1)
  | .l2i => some (mj_cv mj_gl Value.int (fun x : Int64 => x.toInt32), 1)
  | .i2b => some (mj_cv mj_gi Value.int (fun x : Int32 => x.toInt8.toInt32), 1)
  | _ => none
section MJP
variable {p : Program} {l : Launch} {e : Env} {R : Room} {s : State} {m : MethodId} {args : Array Value} {below : List Frame} {meth : Method} {c : Code} {H : Heap} {locs : List Loc} {cells slots : Nat} {Q : State → Prop}
variable {cc : ByteArray} {pc : Nat} {ls : Array Slot} {nL : Nat} {L st L' st' : List Value}
theorem mj_ldi_eq {k : Nat} (h : mj_ldi k L st = some (L', st')) : ∃ x, L[k]? = some (.int x) ∧ L' = L ∧ st' = .int x :: st := by
  unfold mj_ldi at h
  split at h
  · next x hx => simp at h; exact ⟨x, hx, h.1.symm, h.2.symm⟩
  · cases h
theorem mj_ldl_eq {k : Nat} (h : mj_ldl k L st = some (L', st')) : ∃ x, L[k]? = some (.long x) ∧ L' = L ∧ st' = .long x :: st := by
  unfold mj_ldl at h
  split at h
  · next x hx => simp at h; exact ⟨x, hx, h.1.symm, h.2.symm⟩
  · cases h
theorem mj_lda_eq {k : Nat} (h : mj_lda k L st = some (L', st')) : ∃ x, L[k]? = some (.ref x) ∧ L' = L ∧ st' = .ref x :: st := by
  unfold mj_lda at h
  split at h
  · next x hx => simp at h; exact ⟨x, hx, h.1.symm, h.2.symm⟩
  · cases h
theorem mj_sti_eq {k : Nat} (h : mj_sti k L st = some (L', st')) : ∃ x, st = .int x :: st' ∧ mj_s1 k (.int x) L = some L' := by
  unfold mj_sti at h
  split at h
  · next x r => simp at h; obtain ⟨a, h1, rfl, rfl⟩ := h; exact ⟨x, rfl, h1⟩
  · cases h
theorem mj_sta_eq {k : Nat} (h : mj_sta k L st = some (L', st')) : ∃ x, st = .ref x :: st' ∧ mj_s1 k (.ref x) L = some L' := by
  unfold mj_sta at h
  split at h
  · next x r => simp at h; obtain ⟨a, h1, rfl, rfl⟩ := h; exact ⟨x, rfl, h1⟩
  · cases h
theorem mj_stl_eq {k : Nat} (h : mj_stl k L st = some (L', st')) : ∃ x, st = .long x :: st' ∧ mj_s2 k (.long x) L = some L' := by
  unfold mj_stl at h
  split at h
  · next x r => simp at h; obtain ⟨a, h1, rfl, rfl⟩ := h; exact ⟨x, rfl, h1⟩
  · cases h
theorem mj_inc_eq {k : Nat} {n : Int} (h : mj_inc k n L st = some (L', st')) : ∃ x, L[k]? = some (.int x) ∧ st' = st ∧ mj_s1 k (.int (x + Int32.ofInt n)) L = some L' := by
  unfold mj_inc at h
  split at h
  · next x hx => simp at h; obtain ⟨a, h1, rfl, rfl⟩ := h; exact ⟨x, hx, rfl, h1⟩
  · cases h
theorem mj_ii_eq {f : Int32 → Int32 → Int32} (h : mj_ii f L st = some (L', st')) : ∃ x y r, st = .int y :: .int x :: r ∧ L' = L ∧ st' = .int (f x y) :: r := by
  unfold mj_ii at h
  split at h
  · next y x r => simp at h; exact ⟨x, y, r, rfl, h.1.symm, h.2.symm⟩
  · cases h
theorem mj_ll_eq {f : Int64 → Int64 → Int64} (h : mj_ll f L st = some (L', st')) : ∃ x y r, st = .long y :: .long x :: r ∧ L' = L ∧ st' = .long (f x y) :: r := by
  unfold mj_ll at h
  split at h
  · next y x r => simp at h; exact ⟨x, y, r, rfl, h.1.symm, h.2.symm⟩
  · cases h
theorem mj_li_eq {f : Int64 → Int32 → Int64} (h : mj_li f L st = some (L', st')) : ∃ x y r, st = .int y :: .long x :: r ∧ L' = L ∧ st' = .long (f x y) :: r := by
  unfold mj_li at h
  split at h
  · next y x r => simp at h; exact ⟨x, y, r, rfl, h.1.symm, h.2.symm⟩
  · cases h
theorem mj_lc_eq {f : Int64 → Int64 → Int32} (h : mj_lc f L st = some (L', st')) : ∃ x y r, st = .long y :: .long x :: r ∧ L' = L ∧ st' = .int (f x y) :: r := by
  unfold mj_lc at h
  split at h
  · next y x r => simp at h; exact ⟨x, y, r, rfl, h.1.symm, h.2.symm⟩
  · cases h
theorem mj_cvi_eq {β : Type} {w : β → Value} {f : Int32 → β} (h : mj_cv mj_gi w f L st = some (L', st')) : ∃ x r, st = .int x :: r ∧ L' = L ∧ st' = w (f x) :: r := by
  unfold mj_cv at h
  split at h
  · next v r =>
    cases v <;> simp [mj_gi] at h
    exact ⟨_, r, rfl, h.1.symm, h.2.symm⟩
  · cases h
theorem mj_cvl_eq {β : Type} {w : β → Value} {f : Int64 → β} (h : mj_cv mj_gl w f L st = some (L', st')) : ∃ x r, st = .long x :: r ∧ L' = L ∧ st' = w (f x) :: r := by
  unfold mj_cv at h
  split at h
  · next v r =>
    cases v <;> simp [mj_gl] at h
    exact ⟨_, r, rfl, h.1.symm, h.2.symm⟩
  · cases h
/-- an instruction of locals and stack: the machine does what mj_p says -/
theorem mj_pure (hx : p.tables.exec = Jvm.exec) (hb : c.code = cc) {ins : Instr} {op : mj_O} {len : Nat} (hd : decode cc pc = .ok (ins, len)) (hp : mj_p ins = some (op, len)) (ho : op L st = some (L', st')) (hL : mj_L ls nL L)
    (kk : ∀ ls' : Array Slot, mj_L ls' nL L' → W p l e R s m args below meth c H locs cells slots Q (F0 m (pc + len) ls' st')) : W p l e R s m args below meth c H locs cells slots Q (F0 m pc ls st) := by
  cases ins <;> simp only [mj_p, Option.some.injEq, Prod.mk.injEq, reduceCtorEq] at hp <;> obtain ⟨rfl, rfl⟩ := hp
  case iconst n => cases ho; exact lv_iconst hx hb hd rfl (kk ls hL)
  case bipush n => cases ho; exact lv_bipush hx hb hd rfl (kk ls hL)
  case sipush n => cases ho; exact lv_sipush hx hb hd rfl (kk ls hL)
  case lconst n => cases ho; exact lv_lconst hx hb hd rfl (kk ls hL)
  case iload k => obtain ⟨x, h1, rfl, rfl⟩ := mj_ldi_eq ho; exact lv_iload hx hb hd (hL.at h1 (by simp [mj_u])) (kk ls hL)
  case iload_n k => obtain ⟨x, h1, rfl, rfl⟩ := mj_ldi_eq ho; exact lv_iload_n hx hb hd rfl (hL.at h1 (by simp [mj_u])) (kk ls hL)
  case lload k => obtain ⟨x, h1, rfl, rfl⟩ := mj_ldl_eq ho; exact lv_lload hx hb hd (hL.at h1 (by simp [mj_u])) (kk ls hL)
  case lload_n k => obtain ⟨x, h1, rfl, rfl⟩ := mj_ldl_eq ho; exact lv_lload_n hx hb hd rfl (hL.at h1 (by simp [mj_u])) (kk ls hL)
  case aload k => obtain ⟨x, h1, rfl, rfl⟩ := mj_lda_eq ho; exact lv_aload hx hb hd (hL.at h1 (by simp [mj_u])) (kk ls hL)
  case aload_n k => obtain ⟨x, h1, rfl, rfl⟩ := mj_lda_eq ho; exact lv_aload_n hx hb hd rfl (hL.at h1 (by simp [mj_u])) (kk ls hL)
  case istore k => obtain ⟨x, rfl, h1⟩ := mj_sti_eq ho; exact lv_istore hx hb hd hL.2 (by rw [← hL.1]; exact (mj_s1_spec _ _ _ _ h1).2.1) rfl (fun ls' h' => kk ls' (mj_L.st1 hL.1 h1 h'))
  case istore_n k => obtain ⟨x, rfl, h1⟩ := mj_sti_eq ho; exact lv_istore_n hx hb hd rfl hL.2 (by rw [← hL.1]; exact (mj_s1_spec _ _ _ _ h1).2.1) rfl (fun ls' h' => kk ls' (mj_L.st1 hL.1 h1 h'))
  case astore k => obtain ⟨x, rfl, h1⟩ := mj_sta_eq ho; exact lv_astore hx hb hd hL.2 (by rw [← hL.1]; exact (mj_s1_spec _ _ _ _ h1).2.1) rfl (fun ls' h' => kk ls' (mj_L.st1 hL.1 h1 h'))
  case astore_n k => obtain ⟨x, rfl, h1⟩ := mj_sta_eq ho; exact lv_astore_n hx hb hd rfl hL.2 (by rw [← hL.1]; exact (mj_s1_spec _ _ _ _ h1).2.1) rfl (fun ls' h' => kk ls' (mj_L.st1 hL.1 h1 h'))
  case lstore k => obtain ⟨x, rfl, h1⟩ := mj_stl_eq ho; exact lv_lstore hx hb hd hL.2 (by rw [← hL.1]; exact (mj_s2_spec _ _ _ _ h1).2.1) rfl (fun ls' h' => kk ls' (mj_L.st2 hL.1 h1 h'))
  case lstore_n k => obtain ⟨x, rfl, h1⟩ := mj_stl_eq ho; exact lv_lstore_n hx hb hd rfl hL.2 (by rw [← hL.1]; exact (mj_s2_spec _ _ _ _ h1).2.1) rfl (fun ls' h' => kk ls' (mj_L.st2 hL.1 h1 h'))
  case iinc k n =>
    obtain ⟨x, h0, rfl, h1⟩ := mj_inc_eq ho
    have hm : (k, Value.int x) ∈ mj_l L := mj_l_mem.mpr ⟨h0, by simp [mj_u]⟩
    obtain ⟨j, hj⟩ := List.getElem?_of_mem hm
    exact lv_iinc hx hb hd hL.2 hj rfl (by rw [← hL.1]; exact (mj_s1_spec _ _ _ _ h1).2.1) rfl (fun ls' h' => kk ls' (mj_L.st1 hL.1 h1 h'))
  case dup =>
    unfold mj_dup at ho
    split at ho
    · cases ho; exact lv_dup hx hb hd rfl (kk ls hL)
    · cases ho; exact lv_dup hx hb hd rfl (kk ls hL)
    · cases ho
  case dup2 =>
    unfold mj_dup2 at ho
    split at ho
    · cases ho; exact lv_dup2_11 hx hb hd rfl rfl (kk ls hL)
    · cases ho
  case pop =>
    unfold mj_pop at ho
    split at ho
    · cases ho; exact lv_pop hx hb hd rfl (kk ls hL)
    · cases ho
  case iadd => obtain ⟨x, y, r, rfl, rfl, rfl⟩ := mj_ii_eq ho; exact lv_iadd hx hb hd (kk ls hL)
  case isub => obtain ⟨x, y, r, rfl, rfl, rfl⟩ := mj_ii_eq ho; exact lv_isub hx hb hd (kk ls hL)
  case imul => obtain ⟨x, y, r, rfl, rfl, rfl⟩ := mj_ii_eq ho; exact lv_imul hx hb hd (kk ls hL)
  case iand => obtain ⟨x, y, r, rfl, rfl, rfl⟩ := mj_ii_eq ho; exact lv_iand hx hb hd (kk ls hL)
  case ior => obtain ⟨x, y, r, rfl, rfl, rfl⟩ := mj_ii_eq ho; exact lv_ior hx hb hd (kk ls hL)
  case ixor => obtain ⟨x, y, r, rfl, rfl, rfl⟩ := mj_ii_eq ho; exact lv_ixor hx hb hd (kk ls hL)
  case ishl => obtain ⟨x, y, r, rfl, rfl, rfl⟩ := mj_ii_eq ho; exact lv_ishl hx hb hd (kk ls hL)
  case ishr => obtain ⟨x, y, r, rfl, rfl, rfl⟩ := mj_ii_eq ho; exact lv_ishr hx hb hd (kk ls hL)
  case iushr => obtain ⟨x, y, r, rfl, rfl, rfl⟩ := mj_ii_eq ho; exact lv_iushr hx hb hd rfl (kk ls hL)
  case ladd => obtain ⟨x, y, r, rfl, rfl, rfl⟩ := mj_ll_eq ho; exact lv_ladd hx hb hd (kk ls hL)
  case lsub => obtain ⟨x, y, r, rfl, rfl, rfl⟩ := mj_ll_eq ho; exact lv_lsub hx hb hd (kk ls hL)
  case lmul => obtain ⟨x, y, r, rfl, rfl, rfl⟩ := mj_ll_eq ho; exact lv_lmul hx hb hd (kk ls hL)
  case land => obtain ⟨x, y, r, rfl, rfl, rfl⟩ := mj_ll_eq ho; exact lv_land hx hb hd (kk ls hL)
  case lor => obtain ⟨x, y, r, rfl, rfl, rfl⟩ := mj_ll_eq ho; exact lv_lor hx hb hd (kk ls hL)
  case lxor => obtain ⟨x, y, r, rfl, rfl, rfl⟩ := mj_ll_eq ho; exact lv_lxor hx hb hd (kk ls hL)
  case lshl => obtain ⟨x, y, r, rfl, rfl, rfl⟩ := mj_li_eq ho; exact lv_lshl hx hb hd rfl (kk ls hL)
  case lshr => obtain ⟨x, y, r, rfl, rfl, rfl⟩ := mj_li_eq ho; exact lv_lshr hx hb hd rfl (kk ls hL)
  case lushr => obtain ⟨x, y, r, rfl, rfl, rfl⟩ := mj_li_eq ho; exact lv_lushr hx hb hd rfl (kk ls hL)
  case lcmp => obtain ⟨x, y, r, rfl, rfl, rfl⟩ := mj_lc_eq ho; exact W.lcmp hx hb hd (kk ls hL)
  case i2l => obtain ⟨x, r, rfl, rfl, rfl⟩ := mj_cvi_eq ho; exact lv_i2l hx hb hd rfl (kk ls hL)
  case l2i => obtain ⟨x, r, rfl, rfl, rfl⟩ := mj_cvl_eq ho; exact lv_l2i hx hb hd rfl (kk ls hL)
  case i2b => obtain ⟨x, r, rfl, rfl, rfl⟩ := mj_cvi_eq ho; exact lv_i2b hx hb hd rfl (kk ls hL)
/-! ## branches -/
def mj_ic : ClassFile.Cond → Int32 → Int32 → Prop
  | .eq, x, y => x = y
  | .ne, x, y => ¬ x = y
  | .lt, x, y => x < y
  | .ge, x, y => y ≤ x
  | .gt, x, y => y < x
  | .le, x, y => x ≤ y
def mj_br : Instr → List Value → Option (Prop × Int × List Value)
  | .if_icmp cd off, .int y :: .int x :: r => some (mj_ic cd x y, off, r)
  | .ifCond cd off, .int x :: r => some (mj_ic cd x 0, off, r)
  | .ifnull off, .null :: r => some (True, off, r)
  | .ifnull off, .ref _ :: r => some (False, off, r)
  | .ifnonnull off, .null :: r => some (False, off, r)
  | .ifnonnull off, .ref _ :: r => some (True, off, r)
  | .goto off, r => some (True, off, r)
  | _, _ => none
theorem mj_brch (hx : p.tables.exec = Jvm.exec) (hb : c.code = cc) {ins : Instr} {len tgt : Nat} {cnd : Prop} {off : Int} (hd : decode cc pc = .ok (ins, 3)) (hp : mj_br ins st = some (cnd, off, st')) (ht : (pc : Int) + off = (tgt : Int))
    (kt : cnd → W p l e R s m args below meth c H locs cells slots Q (F0 m tgt ls st')) (kf : ¬ cnd → W p l e R s m args below meth c H locs cells slots Q (F0 m (pc + 3) ls st')) : W p l e R s m args below meth c H locs cells slots Q (F0 m pc ls st) := by
  unfold mj_br at hp
  split at hp
  case h_8 => cases hp
  all_goals simp only [Option.some.injEq, Prod.mk.injEq] at hp; obtain ⟨rfl, rfl, rfl⟩ := hp
  · next cd off y x r =>
    cases cd
    · exact lv_icmp_eq hx hb hd ht kt kf
    · exact lv_icmp_ne hx hb hd ht kt (fun h => kf (fun q => q h))
    · exact lv_icmp_lt hx hb hd ht kt kf
    · exact lv_icmp_ge hx hb hd ht kt kf
    · exact lv_icmp_gt hx hb hd ht kt kf
    · exact lv_icmp_le hx hb hd ht kt kf
  · next cd off x r =>
    cases cd
    · exact lv_if_eq hx hb hd ht kt kf
    · exact lv_if_ne hx hb hd ht kt (fun h => kf (fun q => q h))
    · exact lv_if_lt hx hb hd ht kt kf
    · exact lv_if_ge hx hb hd ht kt kf
    · exact lv_if_gt hx hb hd ht kt kf
    · exact lv_if_le hx hb hd ht kt kf
  · exact lv_ifnullN hx hb hd ht (kt trivial)
  · exact lv_ifnull hx hb hd (kf id)
  · exact lv_ifnonnullN hx hb hd (kf id)
  · exact lv_ifnonnull hx hb hd ht (kt trivial)
  · exact lv_goto hx hb hd ht (kt trivial)
end MJP
