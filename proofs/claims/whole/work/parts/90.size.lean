def pA (P : PG) : Nat := match gW P with
  | none => 0
  | some s => s.2.2.1.2
def pMk (P : PG) : Nat := match gW P with
  | none => 0
  | some s => s.2.2.2.2
def sp_size (P : PG) (k : Int32) : Int32 := if k = nI 0 then nI (wW (pW P)) else if k = nI 1 then nI (wH (pW P)) else if k = nI 2 then nI (wL (pW P)) else if k = nI 3 then bI (wB (pW P)) else if k = nI 4 then nI (wNB (pW P)) else if k = nI 5 then nI (wNR (pW P)) else if k = nI 6 then nI (wNW (pW P)) else if k = nI 7 then nI (wF (pW P)) else if k = nI 8 then nI (pA P) else if k = nI 9 then nI (pMk P) else if k = nI 10 then nI (gZ P) else -1
def sp_led (P : PG) (i : Int32) : Option Nat := fnd (fun k => unseen (pW P) (pHs P) (pM P) k && decide (i = nI (ct (unseen (pW P) (pHs P) (pM P)) k))) (pM P)
section
variable {sa : Nat → Nat} {d n t h m : Nat} {Q : mj_Q} {K : Nat → Nat × Nat} {FI : Nat → Nat → Int32} {FL : Nat → Nat → Int64} {FR : Nat → Nat → Option Nat} {AI : Nat → Nat → Int32} {AL : Nat → Nat → Int64} {AR : Nat → Nat → Option Nat} {w : Wl} {hs : Nat → Hg}
variable {x : Nat} {P : PG}
theorem c_size (hV : InvC x P (n, K, FI, FL, FR, AI, AL, AR)) {k : Int32} (hQ : Q (some (.int (sp_size P k))) (n, K, FI, FL, FR, AI, AL, AR)) : EV sa (d + 1) 140 [.ref x, .int k] (n, K, FI, FL, FR, AI, AL, AR) Q := by
  obtain ⟨o, h, hS, hI⟩ := hV
  replace hS : CSt K FR AR x o h := hS
  replace hI : CInv x o P K FR AR FI AI AL := hI
  obtain ⟨k0, -, f450, -, f452, f453, -, -, -, ⟨hH, hT, ht⟩, -, ⟨e1, g1, s1, -⟩, ⟨e2, g2, s2, -⟩, -, -⟩ := id hS
  obtain ⟨⟨⟨w1, w2, w3, w4, w5, w6, w7⟩, -⟩, -, x2, -⟩ := hI.told
  have kT := hT.1
  have a2 := hI.1.2.1
  have yA : FI 194 (x + 53) = nI (pA P) := by
    unfold pA
    cases e : gW P with
    | none => have := hI.2; rw [e] at this; exact this.2.2.2.2.2.1
    | some s => exact ((hI.hc e).2.2.2.1.1 e1 g1 s1).2.1
  have yM : FI 194 (x + 67) = nI (pMk P) := by
    unfold pMk
    cases e : gW P with
    | none => have := hI.2; rw [e] at this; exact this.2.2.2.2.2.2.1
    | some s => exact ((hI.hc e).2.2.2.2.1 e2 g2 s2).2.1
  unfold sp_size at hQ
  refine n140 k0 ?_
  simp only [e140_0, e140_60, e140_61, e140_64, e140_67, e140_70, e140_71, e140_72, e140_75, e140_78, e140_81, e140_82, e140_83, e140_86, e140_89, e140_92, e140_93, e140_94, e140_97, e140_100, e140_103, e140_106, e140_107, e140_110, e140_111, e140_112, e140_113, e140_116, e140_119, e140_122, e140_123, e140_124, e140_127, e140_130, e140_133, e140_134, e140_135, e140_138, e140_141, e140_144, e140_145, e140_146, e140_149, e140_152, e140_153, e140_154, e140_157, e140_160, e140_161, e140_162, e140_165, e140_168, e140_169, e140_170, e140_173, e140_174, e140_175]
  refine s140_1 (fun e => ?_) (fun e => ?_) (fun e => ?_) (fun e => ?_) (fun e => ?_) (fun e => ?_) (fun e => ?_) (fun e => ?_) (fun e => ?_) (fun e => ?_) (fun e => ?_) (fun q => ?_)
  · simp only [e140_0, e140_60, e140_61, e140_64, e140_67, e140_70, e140_71, e140_72, e140_75, e140_78, e140_81, e140_82, e140_83, e140_86, e140_89, e140_92, e140_93, e140_94, e140_97, e140_100, e140_103, e140_106, e140_107, e140_110, e140_111, e140_112, e140_113, e140_116, e140_119, e140_122, e140_123, e140_124, e140_127, e140_130, e140_133, e140_134, e140_135, e140_138, e140_141, e140_144, e140_145, e140_146, e140_149, e140_152, e140_153, e140_154, e140_157, e140_160, e140_161, e140_162, e140_165, e140_168, e140_169, e140_170, e140_173, e140_174, e140_175, k0, f450, hH.1, ht, kT, w1, rf_some, true_and]
    rw [if_pos e] at hQ
    exact hQ
  · simp only [e140_0, e140_60, e140_61, e140_64, e140_67, e140_70, e140_71, e140_72, e140_75, e140_78, e140_81, e140_82, e140_83, e140_86, e140_89, e140_92, e140_93, e140_94, e140_97, e140_100, e140_103, e140_106, e140_107, e140_110, e140_111, e140_112, e140_113, e140_116, e140_119, e140_122, e140_123, e140_124, e140_127, e140_130, e140_133, e140_134, e140_135, e140_138, e140_141, e140_144, e140_145, e140_146, e140_149, e140_152, e140_153, e140_154, e140_157, e140_160, e140_161, e140_162, e140_165, e140_168, e140_169, e140_170, e140_173, e140_174, e140_175, k0, f450, hH.1, ht, kT, w2, rf_some, true_and]
    rw [if_neg (show ¬ k = nI 0 by rw [e]; decide), if_pos e] at hQ
    exact hQ
  · simp only [e140_0, e140_60, e140_61, e140_64, e140_67, e140_70, e140_71, e140_72, e140_75, e140_78, e140_81, e140_82, e140_83, e140_86, e140_89, e140_92, e140_93, e140_94, e140_97, e140_100, e140_103, e140_106, e140_107, e140_110, e140_111, e140_112, e140_113, e140_116, e140_119, e140_122, e140_123, e140_124, e140_127, e140_130, e140_133, e140_134, e140_135, e140_138, e140_141, e140_144, e140_145, e140_146, e140_149, e140_152, e140_153, e140_154, e140_157, e140_160, e140_161, e140_162, e140_165, e140_168, e140_169, e140_170, e140_173, e140_174, e140_175, k0, f450, hH.1, ht, kT, w3, rf_some, true_and]
    rw [if_neg (show ¬ k = nI 0 by rw [e]; decide), if_neg (show ¬ k = nI 1 by rw [e]; decide), if_pos e] at hQ
    exact hQ
  · simp only [e140_0, e140_60, e140_61, e140_64, e140_67, e140_70, e140_71, e140_72, e140_75, e140_78, e140_81, e140_82, e140_83, e140_86, e140_89, e140_92, e140_93, e140_94, e140_97, e140_100, e140_103, e140_106, e140_107, e140_110, e140_111, e140_112, e140_113, e140_116, e140_119, e140_122, e140_123, e140_124, e140_127, e140_130, e140_133, e140_134, e140_135, e140_138, e140_141, e140_144, e140_145, e140_146, e140_149, e140_152, e140_153, e140_154, e140_157, e140_160, e140_161, e140_162, e140_165, e140_168, e140_169, e140_170, e140_173, e140_174, e140_175, k0, f450, hH.1, ht, kT, w4, bI_eq0, rf_some, true_and]
    rw [if_neg (show ¬ k = nI 0 by rw [e]; decide), if_neg (show ¬ k = nI 1 by rw [e]; decide), if_neg (show ¬ k = nI 2 by rw [e]; decide), if_pos e] at hQ
    refine ⟨fun z => ?_, fun z => ?_⟩
    · rw [z] at hQ; exact hQ
    · rw [ts_nf z] at hQ; exact hQ
  · simp only [e140_0, e140_60, e140_61, e140_64, e140_67, e140_70, e140_71, e140_72, e140_75, e140_78, e140_81, e140_82, e140_83, e140_86, e140_89, e140_92, e140_93, e140_94, e140_97, e140_100, e140_103, e140_106, e140_107, e140_110, e140_111, e140_112, e140_113, e140_116, e140_119, e140_122, e140_123, e140_124, e140_127, e140_130, e140_133, e140_134, e140_135, e140_138, e140_141, e140_144, e140_145, e140_146, e140_149, e140_152, e140_153, e140_154, e140_157, e140_160, e140_161, e140_162, e140_165, e140_168, e140_169, e140_170, e140_173, e140_174, e140_175, k0, f450, hH.1, ht, kT, w5, rf_some, true_and]
    rw [if_neg (show ¬ k = nI 0 by rw [e]; decide), if_neg (show ¬ k = nI 1 by rw [e]; decide), if_neg (show ¬ k = nI 2 by rw [e]; decide), if_neg (show ¬ k = nI 3 by rw [e]; decide), if_pos e] at hQ
    exact hQ
  · simp only [e140_0, e140_60, e140_61, e140_64, e140_67, e140_70, e140_71, e140_72, e140_75, e140_78, e140_81, e140_82, e140_83, e140_86, e140_89, e140_92, e140_93, e140_94, e140_97, e140_100, e140_103, e140_106, e140_107, e140_110, e140_111, e140_112, e140_113, e140_116, e140_119, e140_122, e140_123, e140_124, e140_127, e140_130, e140_133, e140_134, e140_135, e140_138, e140_141, e140_144, e140_145, e140_146, e140_149, e140_152, e140_153, e140_154, e140_157, e140_160, e140_161, e140_162, e140_165, e140_168, e140_169, e140_170, e140_173, e140_174, e140_175, k0, f450, hH.1, ht, kT, w6, rf_some, true_and]
    rw [if_neg (show ¬ k = nI 0 by rw [e]; decide), if_neg (show ¬ k = nI 1 by rw [e]; decide), if_neg (show ¬ k = nI 2 by rw [e]; decide), if_neg (show ¬ k = nI 3 by rw [e]; decide), if_neg (show ¬ k = nI 4 by rw [e]; decide), if_pos e] at hQ
    exact hQ
  · simp only [e140_0, e140_60, e140_61, e140_64, e140_67, e140_70, e140_71, e140_72, e140_75, e140_78, e140_81, e140_82, e140_83, e140_86, e140_89, e140_92, e140_93, e140_94, e140_97, e140_100, e140_103, e140_106, e140_107, e140_110, e140_111, e140_112, e140_113, e140_116, e140_119, e140_122, e140_123, e140_124, e140_127, e140_130, e140_133, e140_134, e140_135, e140_138, e140_141, e140_144, e140_145, e140_146, e140_149, e140_152, e140_153, e140_154, e140_157, e140_160, e140_161, e140_162, e140_165, e140_168, e140_169, e140_170, e140_173, e140_174, e140_175, k0, f450, hH.1, ht, kT, w7, rf_some, true_and]
    rw [if_neg (show ¬ k = nI 0 by rw [e]; decide), if_neg (show ¬ k = nI 1 by rw [e]; decide), if_neg (show ¬ k = nI 2 by rw [e]; decide), if_neg (show ¬ k = nI 3 by rw [e]; decide), if_neg (show ¬ k = nI 4 by rw [e]; decide), if_neg (show ¬ k = nI 5 by rw [e]; decide), if_pos e] at hQ
    exact hQ
  · simp only [e140_0, e140_60, e140_61, e140_64, e140_67, e140_70, e140_71, e140_72, e140_75, e140_78, e140_81, e140_82, e140_83, e140_86, e140_89, e140_92, e140_93, e140_94, e140_97, e140_100, e140_103, e140_106, e140_107, e140_110, e140_111, e140_112, e140_113, e140_116, e140_119, e140_122, e140_123, e140_124, e140_127, e140_130, e140_133, e140_134, e140_135, e140_138, e140_141, e140_144, e140_145, e140_146, e140_149, e140_152, e140_153, e140_154, e140_157, e140_160, e140_161, e140_162, e140_165, e140_168, e140_169, e140_170, e140_173, e140_174, e140_175, k0, f450, hH.1, x2, rf_some, true_and]
    rw [if_neg (show ¬ k = nI 0 by rw [e]; decide), if_neg (show ¬ k = nI 1 by rw [e]; decide), if_neg (show ¬ k = nI 2 by rw [e]; decide), if_neg (show ¬ k = nI 3 by rw [e]; decide), if_neg (show ¬ k = nI 4 by rw [e]; decide), if_neg (show ¬ k = nI 5 by rw [e]; decide), if_neg (show ¬ k = nI 6 by rw [e]; decide), if_pos e] at hQ
    exact hQ
  · simp only [e140_0, e140_60, e140_61, e140_64, e140_67, e140_70, e140_71, e140_72, e140_75, e140_78, e140_81, e140_82, e140_83, e140_86, e140_89, e140_92, e140_93, e140_94, e140_97, e140_100, e140_103, e140_106, e140_107, e140_110, e140_111, e140_112, e140_113, e140_116, e140_119, e140_122, e140_123, e140_124, e140_127, e140_130, e140_133, e140_134, e140_135, e140_138, e140_141, e140_144, e140_145, e140_146, e140_149, e140_152, e140_153, e140_154, e140_157, e140_160, e140_161, e140_162, e140_165, e140_168, e140_169, e140_170, e140_173, e140_174, e140_175, k0, f452, s1.1, yA, rf_some, true_and]
    rw [if_neg (show ¬ k = nI 0 by rw [e]; decide), if_neg (show ¬ k = nI 1 by rw [e]; decide), if_neg (show ¬ k = nI 2 by rw [e]; decide), if_neg (show ¬ k = nI 3 by rw [e]; decide), if_neg (show ¬ k = nI 4 by rw [e]; decide), if_neg (show ¬ k = nI 5 by rw [e]; decide), if_neg (show ¬ k = nI 6 by rw [e]; decide), if_neg (show ¬ k = nI 7 by rw [e]; decide), if_pos e] at hQ
    exact hQ
  · simp only [e140_0, e140_60, e140_61, e140_64, e140_67, e140_70, e140_71, e140_72, e140_75, e140_78, e140_81, e140_82, e140_83, e140_86, e140_89, e140_92, e140_93, e140_94, e140_97, e140_100, e140_103, e140_106, e140_107, e140_110, e140_111, e140_112, e140_113, e140_116, e140_119, e140_122, e140_123, e140_124, e140_127, e140_130, e140_133, e140_134, e140_135, e140_138, e140_141, e140_144, e140_145, e140_146, e140_149, e140_152, e140_153, e140_154, e140_157, e140_160, e140_161, e140_162, e140_165, e140_168, e140_169, e140_170, e140_173, e140_174, e140_175, k0, f453, s2.1, yM, rf_some, true_and]
    rw [if_neg (show ¬ k = nI 0 by rw [e]; decide), if_neg (show ¬ k = nI 1 by rw [e]; decide), if_neg (show ¬ k = nI 2 by rw [e]; decide), if_neg (show ¬ k = nI 3 by rw [e]; decide), if_neg (show ¬ k = nI 4 by rw [e]; decide), if_neg (show ¬ k = nI 5 by rw [e]; decide), if_neg (show ¬ k = nI 6 by rw [e]; decide), if_neg (show ¬ k = nI 7 by rw [e]; decide), if_neg (show ¬ k = nI 8 by rw [e]; decide), if_pos e] at hQ
    exact hQ
  · simp only [e140_0, e140_60, e140_61, e140_64, e140_67, e140_70, e140_71, e140_72, e140_75, e140_78, e140_81, e140_82, e140_83, e140_86, e140_89, e140_92, e140_93, e140_94, e140_97, e140_100, e140_103, e140_106, e140_107, e140_110, e140_111, e140_112, e140_113, e140_116, e140_119, e140_122, e140_123, e140_124, e140_127, e140_130, e140_133, e140_134, e140_135, e140_138, e140_141, e140_144, e140_145, e140_146, e140_149, e140_152, e140_153, e140_154, e140_157, e140_160, e140_161, e140_162, e140_165, e140_168, e140_169, e140_170, e140_173, e140_174, e140_175, k0, a2, rf_some, true_and]
    rw [if_neg (show ¬ k = nI 0 by rw [e]; decide), if_neg (show ¬ k = nI 1 by rw [e]; decide), if_neg (show ¬ k = nI 2 by rw [e]; decide), if_neg (show ¬ k = nI 3 by rw [e]; decide), if_neg (show ¬ k = nI 4 by rw [e]; decide), if_neg (show ¬ k = nI 5 by rw [e]; decide), if_neg (show ¬ k = nI 6 by rw [e]; decide), if_neg (show ¬ k = nI 7 by rw [e]; decide), if_neg (show ¬ k = nI 8 by rw [e]; decide), if_neg (show ¬ k = nI 9 by rw [e]; decide), if_pos e] at hQ
    exact hQ
  · simp only [e140_0, e140_60, e140_61, e140_64, e140_67, e140_70, e140_71, e140_72, e140_75, e140_78, e140_81, e140_82, e140_83, e140_86, e140_89, e140_92, e140_93, e140_94, e140_97, e140_100, e140_103, e140_106, e140_107, e140_110, e140_111, e140_112, e140_113, e140_116, e140_119, e140_122, e140_123, e140_124, e140_127, e140_130, e140_133, e140_134, e140_135, e140_138, e140_141, e140_144, e140_145, e140_146, e140_149, e140_152, e140_153, e140_154, e140_157, e140_160, e140_161, e140_162, e140_165, e140_168, e140_169, e140_170, e140_173, e140_174, e140_175]
    have no : ∀ j : Nat, j ≤ 10 → ¬ k = nI j := fun j hj e => q (by rw [e]; exact ⟨nI_pos' (by omega), nI_le hj (by decide)⟩)
    rw [if_neg (no 0 (by decide)), if_neg (no 1 (by decide)), if_neg (no 2 (by decide)), if_neg (no 3 (by decide)), if_neg (no 4 (by decide)), if_neg (no 5 (by decide)), if_neg (no 6 (by decide)), if_neg (no 7 (by decide)), if_neg (no 8 (by decide)), if_neg (no 9 (by decide)), if_neg (no 10 (by decide))] at hQ
    exact hQ
theorem c_led (hV : InvC x P (n, K, FI, FL, FR, AI, AL, AR)) {i : Int32} {k : Nat} (hk : sp_led P i = some k) (hQ : Q (some (.int (nI k))) (n, K, FI, FL, FR, AI, AL, AR)) : EV sa (d + 2) 139 [.ref x, .int i] (n, K, FI, FL, FR, AI, AL, AR) Q := by
  obtain ⟨o, h, hS, hI⟩ := hV
  replace hS : CSt K FR AR x o h := hS
  replace hI : CInv x o P K FR AR FI AI AL := hI
  obtain ⟨k0, -, f450, -, -, -, -, -, -, ⟨hH, hT, ht⟩, -⟩ := id hS
  have h30 := hI.told.2.2.2.1
  have hlt := fnd_lt hk
  obtain ⟨s, es⟩ := wall_of (P := P) (Or.inr (Or.inr (Or.inl (by omega))))
  obtain ⟨p1, p2⟩ := pW_some es
  have em : pM P = s.2.1.2.1 := by unfold pM; rw [p2]
  have eh : pHs P = s.2.1.1 := by unfold pHs; rw [p2]
  have hC := (hI.hc es).1
  refine n139 k0 ?_
  simp only [e139_0, e139_1, e139_4, e139_5, e139_8, e139_9, e139_10, e139_16, e139_16i, e139_17, e139_24, e139_25, k0, f450, rf_some, true_and]
  refine ⟨by simp, c_findUnseen hH hC.2.2.2.2.2.1 ?_⟩
  have el : fnd (fun k => unseen s.1 s.2.1.1 s.2.1.2.1 k && decide (i = nI (ct (unseen s.1 s.2.1.1 s.2.1.2.1) k))) s.2.1.2.1 = some k := by
    have := hk
    unfold sp_led at this
    rwa [p1, eh, em] at this
  rw [el]
  simp only [tl_some, e139_0, e139_1, e139_4, e139_5, e139_8, e139_9, e139_10, e139_16, e139_16i, e139_17, e139_24, e139_25, oI, mj_kl]
  exact ⟨fun _ => hQ, fun z => absurd (nI_pos' (by omega)) z⟩
end
