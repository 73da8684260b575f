/-! the law's loop -/
theorem law_gt {i L : Nat} (hi : i ≤ 4096) (hL : L ≤ 2048) : (nI i > nI L - 4) ↔ L < i + 4 := by
  show (nI L - 4 < nI i) ↔ _
  rw [Int32.lt_iff_toInt_lt, Int32.toInt_sub, nI_toInt (by omega), nI_toInt (by omega), show (4 : Int32).toInt = 4 from rfl, Int.bmod_eq_of_le (by omega) (by omega)]
  omega
section
variable {ad : Nat → Nat → Nat → Nat} {b L : Nat} {xs : Nat → Int32} {F : (Option Value ⊕ String) → wd_S → Prop}
theorem law_body {o : wd_S} {n m c i cc cs : Nat} (hL : L ≤ 2048) (hi : i + 4 ≤ L) (R : Rel o n m c) (hcc : cc + 2 ≤ (mm_mo (ML_law b L xs)).cells) (hcs : cs + 12 ≤ (mm_mo (ML_law b L xs)).slots) (K : ∀ o2 n m c, Rel o2 n m c → AW ad (ML_law b L xs) 1946 [some (.ref b), some (.ref (ad 7 0 0)), some (.ref (ad 14 0 0)), some (.ref (ad 16 0 0)), some (.int (nI i)), none, none] [] o2 (cc + 2) (cs + 12) F) : AW ad (ML_law b L xs) 32 [some (.ref b), some (.ref (ad 7 0 0)), some (.ref (ad 14 0 0)), some (.ref (ad 16 0 0)), some (.int (nI i)), none, none] [] o cc cs F := by
  obtain ⟨k, hk, ek⟩ := pk_andE (xs i) (m := 31) 5 (by decide)
  refine aw_aload_n (x := b) rfl dL_law_32 ?_
  refine aw_iload (x := nI i) rfl dL_law_33 ?_
  refine aw_sld (v := xs i) rfl (nI_in (by omega) (by omega)) (by rw [nI_clamp (by omega)]) dL_law_35 ?_
  refine aw_bipush (v := 31) (by decide) dL_law_36 ?_
  refine aw_iandz (z := nI k) ek dL_law_38 ?_
  have hk : k < 32 := hk
  have hk2 : k = 0 ∨ k = 1 ∨ k = 2 ∨ k = 3 ∨ k = 4 ∨ k = 5 ∨ k = 6 ∨ k = 7 ∨ k = 8 ∨ k = 9 ∨ k = 10 ∨ k = 11 ∨ k = 12 ∨ k = 13 ∨ k = 14 ∨ k = 15 ∨ k = 16 ∨ k = 17 ∨ k = 18 ∨ k = 19 ∨ k = 20 ∨ k = 21 ∨ k = 22 ∨ k = 23 ∨ k = 24 ∨ k = 25 ∨ k = 26 ∨ k = 27 ∨ k = 28 ∨ k = 29 ∨ k = 30 ∨ k = 31 := by omega
  rcases hk2 with rfl | rfl | rfl | rfl | rfl | rfl | rfl | rfl | rfl | rfl | rfl | rfl | rfl | rfl | rfl | rfl | rfl | rfl | rfl | rfl | rfl | rfl | rfl | rfl | rfl | rfl | rfl | rfl | rfl | rfl | rfl | rfl
  · exact aw_tableIn (off := 133) (tgt := 172) (by decide) (by decide) (by decide) (by decide) dL_law_39 (bk_0 hL hi R hcc hcs K)
  · exact aw_tableIn (off := 177) (tgt := 216) (by decide) (by decide) (by decide) (by decide) dL_law_39 (bk_1 hL hi R hcc hcs K)
  · exact aw_tableIn (off := 257) (tgt := 296) (by decide) (by decide) (by decide) (by decide) dL_law_39 (bk_2 hL hi R hcc hcs K)
  · exact aw_tableIn (off := 337) (tgt := 376) (by decide) (by decide) (by decide) (by decide) dL_law_39 (bk_3 hL hi R hcc hcs K)
  · exact aw_tableIn (off := 350) (tgt := 389) (by decide) (by decide) (by decide) (by decide) dL_law_39 (bk_4 hL hi R hcc hcs K)
  · exact aw_tableIn (off := 363) (tgt := 402) (by decide) (by decide) (by decide) (by decide) dL_law_39 (bk_5 hL hi R hcc hcs K)
  · exact aw_tableIn (off := 431) (tgt := 470) (by decide) (by decide) (by decide) (by decide) dL_law_39 (bk_6 hL hi R hcc hcs K)
  · exact aw_tableIn (off := 499) (tgt := 538) (by decide) (by decide) (by decide) (by decide) dL_law_39 (bk_7 hL hi R hcc hcs K)
  · exact aw_tableIn (off := 555) (tgt := 594) (by decide) (by decide) (by decide) (by decide) dL_law_39 (bk_8 hL hi R hcc hcs K)
  · exact aw_tableIn (off := 611) (tgt := 650) (by decide) (by decide) (by decide) (by decide) dL_law_39 (bk_9 hL hi R hcc hcs K)
  · exact aw_tableIn (off := 679) (tgt := 718) (by decide) (by decide) (by decide) (by decide) dL_law_39 (bk_10 hL hi R hcc hcs K)
  · exact aw_tableIn (off := 735) (tgt := 774) (by decide) (by decide) (by decide) (by decide) dL_law_39 (bk_11 hL hi R hcc hcs K)
  · exact aw_tableIn (off := 791) (tgt := 830) (by decide) (by decide) (by decide) (by decide) dL_law_39 (bk_12 hL hi R hcc hcs K)
  · exact aw_tableIn (off := 847) (tgt := 886) (by decide) (by decide) (by decide) (by decide) dL_law_39 (bk_13 hL hi R hcc hcs K)
  · exact aw_tableIn (off := 915) (tgt := 954) (by decide) (by decide) (by decide) (by decide) dL_law_39 (bk_14 hL hi R hcc hcs K)
  · exact aw_tableIn (off := 971) (tgt := 1010) (by decide) (by decide) (by decide) (by decide) dL_law_39 (bk_15 hL hi R hcc hcs K)
  · exact aw_tableIn (off := 1027) (tgt := 1066) (by decide) (by decide) (by decide) (by decide) dL_law_39 (bk_16 hL hi R hcc hcs K)
  · exact aw_tableIn (off := 1095) (tgt := 1134) (by decide) (by decide) (by decide) (by decide) dL_law_39 (bk_17 hL hi R hcc hcs K)
  · exact aw_tableIn (off := 1151) (tgt := 1190) (by decide) (by decide) (by decide) (by decide) dL_law_39 (bk_18 hL hi R hcc hcs K)
  · exact aw_tableIn (off := 1207) (tgt := 1246) (by decide) (by decide) (by decide) (by decide) dL_law_39 (bk_19 hL hi R hcc hcs K)
  · exact aw_tableIn (off := 1263) (tgt := 1302) (by decide) (by decide) (by decide) (by decide) dL_law_39 (bk_20 hL hi R hcc hcs K)
  · exact aw_tableIn (off := 1359) (tgt := 1398) (by decide) (by decide) (by decide) (by decide) dL_law_39 (bk_21 hL hi R hcc hcs K)
  · exact aw_tableIn (off := 1415) (tgt := 1454) (by decide) (by decide) (by decide) (by decide) dL_law_39 (bk_22 hL hi R hcc hcs K)
  · exact aw_tableIn (off := 1478) (tgt := 1517) (by decide) (by decide) (by decide) (by decide) dL_law_39 (bk_23 hL hi R hcc hcs K)
  · exact aw_tableIn (off := 1558) (tgt := 1597) (by decide) (by decide) (by decide) (by decide) dL_law_39 (bk_24 hL hi R hcc hcs K)
  · exact aw_tableIn (off := 1633) (tgt := 1672) (by decide) (by decide) (by decide) (by decide) dL_law_39 (bk_25 hL hi R hcc hcs K)
  · exact aw_tableIn (off := 1713) (tgt := 1752) (by decide) (by decide) (by decide) (by decide) dL_law_39 (bk_26 hL hi R hcc hcs K)
  · exact aw_tableIn (off := 1793) (tgt := 1832) (by decide) (by decide) (by decide) (by decide) dL_law_39 (bk_27 hL hi R hcc hcs K)
  · exact aw_tableIn (off := 1849) (tgt := 1888) (by decide) (by decide) (by decide) (by decide) dL_law_39 (bk_28 hL hi R hcc hcs K)
  · exact aw_tableIn (off := 1893) (tgt := 1932) (by decide) (by decide) (by decide) (by decide) dL_law_39 (bk_29 hL hi R hcc hcs K)
  · exact aw_tableOut (tgt := 1946) (by decide) (by decide) dL_law_39 (AW.wide (K o n m c R) (Nat.le_add_right cc 2) (Nat.le_add_right cs 12))
  · exact aw_tableOut (tgt := 1946) (by decide) (by decide) dL_law_39 (AW.wide (K o n m c R) (Nat.le_add_right cc 2) (Nat.le_add_right cs 12))
theorem law_loop (hL : L ≤ 2048) (hF : ∀ o, F (.inl (some (.int 1))) o) : ∀ (k i cc cs : Nat) (o : wd_S) (n m c : Nat), i ≤ 2052 → L < i + 4 * k + 4 → cc + 2 * k ≤ (mm_mo (ML_law b L xs)).cells → cs + 12 * k ≤ (mm_mo (ML_law b L xs)).slots → Rel o n m c → AW ad (ML_law b L xs) 23 [some (.ref b), some (.ref (ad 7 0 0)), some (.ref (ad 14 0 0)), some (.ref (ad 16 0 0)), some (.int (nI i)), none, none] [] o cc cs F := by
  intro k
  induction k with
  | zero =>
    intro i cc cs o n m c hi hk hcc hcs R
    refine aw_iload (x := nI i) rfl dL_law_23 ?_
    refine aw_aload_n (x := b) rfl dL_law_25 ?_
    refine aw_slen rfl dL_law_26 ?_
    refine aw_iconst (v := 4) (by decide) dL_law_27 ?_
    refine aw_isub dL_law_28 ?_
    refine aw_icmp_gt (tgt := 1952) (by decide) dL_law_29 (fun _ => ?_) (fun z => absurd ((law_gt (by omega) hL).2 (by omega)) z)
    refine aw_iconst (v := 1) (by decide) dL_law_1952 ?_
    exact aw_zret rfl (Or.inr rfl) (by omega) (by omega) dL_law_1953 (hF o)
  | succ k ih =>
    intro i cc cs o n m c hi hk hcc hcs R
    refine aw_iload (x := nI i) rfl dL_law_23 ?_
    refine aw_aload_n (x := b) rfl dL_law_25 ?_
    refine aw_slen rfl dL_law_26 ?_
    refine aw_iconst (v := 4) (by decide) dL_law_27 ?_
    refine aw_isub dL_law_28 ?_
    refine aw_icmp_gt (tgt := 1952) (by decide) dL_law_29 (fun _ => ?_) (fun z => ?_)
    · refine aw_iconst (v := 1) (by decide) dL_law_1952 ?_
      exact aw_zret rfl (Or.inr rfl) (by omega) (by omega) dL_law_1953 (hF o)
    · have hi2 : i + 4 ≤ L := by
        have := mt (law_gt (by omega) hL).2 z
        omega
      refine law_body hL hi2 R (by omega) (by omega) (fun o2 n2 m2 c2 R2 => ?_)
      refine aw_iinc (n := 4) (x := nI i) (v := nI (i + 4)) (L2 := [some (.ref b), some (.ref (ad 7 0 0)), some (.ref (ad 14 0 0)), some (.ref (ad 16 0 0)), some (.int (nI (i + 4))), none, none]) rfl (nI_add i 4) (Nat.le_of_ble_eq_true rfl) rfl rfl dL_law_1946 ?_
      refine aw_goto (tgt := 23) (by decide) dL_law_1949 ?_
      exact ih (i + 4) (cc + 2) (cs + 12) o2 n2 m2 c2 (by omega) (by omega) (by omega) (by omega) R2
end
