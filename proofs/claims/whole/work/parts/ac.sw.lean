/-! ## the law: its switch, its loop -/
section LWS
variable {cx : LCx} {b N x i t k z : Nat} {P : PG} {v5 v6 : Value} {μ : mj_M}
theorem LV.next (h : LV b N x P t k z μ) : LV b N x P (t + 1) k z μ := ⟨h.1, h.2.1, h.2.2.1, h.2.2.2.1, h.2.2.2.2.1, h.2.2.2.2.2.1, by have := h.2.2.2.2.2.2; omega⟩
theorem lw_sw (hC : LC cx) (hV : LV b N x P t k z μ) (ht : t ≤ 511) (hi : i + 6 ≤ N) (kk : ∀ (P' : PG) (k' z' : Nat) (μ' : mj_M) (v5 v6 : Value), LV b N x P' (t + 1) k' z' μ' → LG cx k' z' 1570 [.ref b, .ref x, .ref (x + 120), .ref (x + 133), .int (nI i), v5, v6] [] μ') {c : Nat} (hc : c < 64) : LG cx k z 40 [.ref b, .ref x, .ref (x + 120), .ref (x + 133), .int (nI i), v5, v6] [.int (nI c)] μ := by
  by_cases h42 : c ≤ 42
  · rcases (show c = 0 ∨ c = 1 ∨ c = 2 ∨ c = 3 ∨ c = 4 ∨ c = 5 ∨ c = 6 ∨ c = 7 ∨ c = 8 ∨ c = 9 ∨ c = 10 ∨ c = 11 ∨ c = 12 ∨ c = 13 ∨ c = 14 ∨ c = 15 ∨ c = 16 ∨ c = 17 ∨ c = 18 ∨ c = 19 ∨ c = 20 ∨ c = 21 ∨ c = 22 ∨ c = 23 ∨ c = 24 ∨ c = 25 ∨ c = 26 ∨ c = 27 ∨ c = 28 ∨ c = 29 ∨ c = 30 ∨ c = 31 ∨ c = 32 ∨ c = 33 ∨ c = 34 ∨ c = 35 ∨ c = 36 ∨ c = 37 ∨ c = 38 ∨ c = 39 ∨ c = 40 ∨ c = 41 ∨ c = 42 by omega) with rfl | rfl | rfl | rfl | rfl | rfl | rfl | rfl | rfl | rfl | rfl | rfl | rfl | rfl | rfl | rfl | rfl | rfl | rfl | rfl | rfl | rfl | rfl | rfl | rfl | rfl | rfl | rfl | rfl | rfl | rfl | rfl | rfl | rfl | rfl | rfl | rfl | rfl | rfl | rfl | rfl | rfl | rfl
    · exact g_swI (tgt := 228) (off := 188) hC dL_law_40 (by decide) (by decide) (by decide) rfl (lc_feed hC hV ht hi kk)
    · exact g_swI (tgt := 301) (off := 261) hC dL_law_40 (by decide) (by decide) (by decide) rfl (lc_wall hC hV ht hi kk)
    · exact g_swI (tgt := 326) (off := 286) hC dL_law_40 (by decide) (by decide) (by decide) rfl (lc_fault hC hV ht hi kk)
    · exact g_swI (tgt := 339) (off := 299) hC dL_law_40 (by decide) (by decide) (by decide) rfl (lc_where hC hV ht hi kk)
    · exact g_swI (tgt := 352) (off := 312) hC dL_law_40 (by decide) (by decide) (by decide) rfl (lc_bill hC hV ht hi kk)
    · exact g_swI (tgt := 389) (off := 349) hC dL_law_40 (by decide) (by decide) (by decide) rfl (lc_hanging hC hV ht hi kk)
    · exact g_swI (tgt := 402) (off := 362) hC dL_law_40 (by decide) (by decide) (by decide) rfl (lc_hung hC hV ht hi kk)
    · exact g_swI (tgt := 439) (off := 399) hC dL_law_40 (by decide) (by decide) (by decide) rfl (lc_shows hC hV ht hi kk)
    · exact g_swI (tgt := 476) (off := 436) hC dL_law_40 (by decide) (by decide) (by decide) rfl (lc_letter hC hV ht hi kk)
    · exact g_swI (tgt := 513) (off := 473) hC dL_law_40 (by decide) (by decide) (by decide) rfl (lc_under hC hV ht hi kk)
    · exact g_swI (tgt := 538) (off := 498) hC dL_law_40 (by decide) (by decide) (by decide) rfl (lc_over hC hV ht hi kk)
    · exact g_swI (tgt := 563) (off := 523) hC dL_law_40 (by decide) (by decide) (by decide) rfl (lc_beneath hC hV ht hi kk)
    · exact g_swI (tgt := 612) (off := 572) hC dL_law_40 (by decide) (by decide) (by decide) rfl (lc_on hC hV ht hi kk)
    · exact g_swI (tgt := 661) (off := 621) hC dL_law_40 (by decide) (by decide) (by decide) rfl (lc_may hC hV ht hi kk)
    · exact g_swI (tgt := 710) (off := 670) hC dL_law_40 (by decide) (by decide) (by decide) rfl (lc_places hC hV ht hi kk)
    · exact g_swI (tgt := 735) (off := 695) hC dL_law_40 (by decide) (by decide) (by decide) rfl (lc_place hC hV ht hi kk)
    · exact g_swI (tgt := 772) (off := 732) hC dL_law_40 (by decide) (by decide) (by decide) rfl (lc_full hC hV ht hi kk)
    · exact g_swI (tgt := 785) (off := 745) hC dL_law_40 (by decide) (by decide) (by decide) rfl (lc_table hC hV ht hi kk)
    · exact g_swI (tgt := 850) (off := 810) hC dL_law_40 (by decide) (by decide) (by decide) rfl (lc_paste hC hV ht hi kk)
    · exact g_swI (tgt := 911) (off := 871) hC dL_law_40 (by decide) (by decide) (by decide) rfl (lc_peel hC hV ht hi kk)
    · exact g_swI (tgt := 924) (off := 884) hC dL_law_40 (by decide) (by decide) (by decide) rfl (lc_tear hC hV ht hi kk)
    · exact g_swI (tgt := 949) (off := 909) hC dL_law_40 (by decide) (by decide) (by decide) rfl (lc_scrape hC hV ht hi kk)
    · exact g_swI (tgt := 962) (off := 922) hC dL_law_40 (by decide) (by decide) (by decide) rfl (lc_days hC hV ht hi kk)
    · exact g_swI (tgt := 987) (off := 947) hC dL_law_40 (by decide) (by decide) (by decide) rfl (lc_rival hC hV ht hi kk)
    · exact g_swI (tgt := 1024) (off := 984) hC dL_law_40 (by decide) (by decide) (by decide) rfl (lc_undo hC hV ht hi kk)
    · exact g_swI (tgt := 1037) (off := 997) hC dL_law_40 (by decide) (by decide) (by decide) rfl (lc_reads hC hV ht hi kk)
    · exact g_swI (tgt := 1062) (off := 1022) hC dL_law_40 (by decide) (by decide) (by decide) rfl (lc_readAt hC hV ht hi kk)
    · exact g_swI (tgt := 1087) (off := 1047) hC dL_law_40 (by decide) (by decide) (by decide) rfl (lc_readBy hC hV ht hi kk)
    · exact g_swI (tgt := 1124) (off := 1084) hC dL_law_40 (by decide) (by decide) (by decide) rfl (lc_makes hC hV ht hi kk)
    · exact g_swI (tgt := 1149) (off := 1109) hC dL_law_40 (by decide) (by decide) (by decide) rfl (lc_stays hC hV ht hi kk)
    · exact g_swI (tgt := 1198) (off := 1158) hC dL_law_40 (by decide) (by decide) (by decide) rfl (lc_best hC hV ht hi kk)
    · exact g_swI (tgt := 1223) (off := 1183) hC dL_law_40 (by decide) (by decide) (by decide) rfl (lc_far hC hV ht hi kk)
    · exact g_swI (tgt := 1248) (off := 1208) hC dL_law_40 (by decide) (by decide) (by decide) rfl (lc_shortest hC hV ht hi kk)
    · exact g_swI (tgt := 1273) (off := 1233) hC dL_law_40 (by decide) (by decide) (by decide) rfl (lc_wins hC hV ht hi kk)
    · exact g_swI (tgt := 1298) (off := 1258) hC dL_law_40 (by decide) (by decide) (by decide) rfl (lc_close hC hV ht hi kk)
    · exact g_swI (tgt := 1335) (off := 1295) hC dL_law_40 (by decide) (by decide) (by decide) rfl (lc_life hC hV ht hi kk)
    · exact g_swI (tgt := 1388) (off := 1348) hC dL_law_40 (by decide) (by decide) (by decide) rfl (lc_orders hC hV ht hi kk)
    · exact g_swI (tgt := 1401) (off := 1361) hC dL_law_40 (by decide) (by decide) (by decide) rfl (lc_ahead hC hV ht hi kk)
    · exact g_swI (tgt := 1438) (off := 1398) hC dL_law_40 (by decide) (by decide) (by decide) rfl (lc_mark hC hV ht hi kk)
    · exact g_swI (tgt := 1451) (off := 1411) hC dL_law_40 (by decide) (by decide) (by decide) rfl (lc_back hC hV ht hi kk)
    · exact g_swI (tgt := 1476) (off := 1436) hC dL_law_40 (by decide) (by decide) (by decide) rfl (lc_led hC hV ht hi kk)
    · exact g_swI (tgt := 1532) (off := 1492) hC dL_law_40 (by decide) (by decide) (by decide) rfl (lc_size hC hV ht hi kk)
    · exact g_swI (tgt := 1557) (off := 1517) hC dL_law_40 (by decide) (by decide) (by decide) rfl (lc_trouble hC hV ht hi kk)
  · refine g_swO (tgt := 1570) hC dL_law_40 (Or.inr ?_) rfl (kk P k z μ v5 v6 hV.next)
    have h1 : nI 42 < nI c := nI_lt (by omega) (by omega)
    have h2 := Int32.lt_iff_toInt_lt.mp h1
    have h3 : (nI 42).toInt = 42 := by decide
    omega
end LWS
