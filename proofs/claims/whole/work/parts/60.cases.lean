/-! the law's body, case by case -/
theorem cmp_self (x : Int64) : lg_cmp x x = 0 := (lg_cmp_eq x x).2 rfl
theorem mm_fitH_of {M M2 : mm_M} {n : Nat} (h : (mm_my M2).cls ≠ "java/lang/invoke/MethodHandle" ∧ (mm_my M2).cls ≠ "java/lang/invoke/VarHandle" ∧ (parseMethodDescriptor (mm_my M2).desc).map (fun d => d.parameters.length) = some n) (hh : mm_mh M2 ≠ []) (hc : Cond.codeWith (mm_my M2) (mm_mc M2) (mm_mx M2) (mm_mr M2) (mm_mh M2) ∈ mm_B) (hi : Cond.initialized (mm_my M2).cls ∈ mm_B) (h1 : (mm_mo M2).frames + 1 ≤ (mm_mo M).frames) (h2 : 8 + (mm_mx M2 + 11) + (mm_mo M2).locals ≤ (mm_mo M).locals) : mm_fitH M M2 n := ⟨h.1, h.2.1, h.2.2, h1, h2, hh, hc, hi⟩
section
variable {ad : Nat → Nat → Nat → Nat} {M : mm_M} {pc : Nat} {L : List (Option Value)} {S : List Value} {o : wd_S} {cc cs : Nat} {F : (Option Value ⊕ String) → wd_S → Prop}
theorem aw_L {M2 : mm_M} {v : Int32} {o2 : wd_S} {idx n : Nat} {As st : List Value} (hG : CT ad M2 As o (RT (some (.int v)) o2)) (hf : mm_fitH M M2 n) (hl : Cond.methodLink (mm_my M).cls idx (mm_my M2) ∈ mm_B) (ho : Cond.static (mm_my M2) ∈ mm_B) (hn : As.length = n) (hst : As.reverse ++ S = st) (hcat : (S.map fun v => v.category).sum ≤ 8) (hc2 : (mm_mo M2).cells ≤ 2) (hs2 : (mm_mo M2).slots ≤ 12) (hcc : cc + 2 ≤ (mm_mo M).cells) (hcs : cs + 12 ≤ (mm_mo M).slots) (d : decode (mm_mc M) pc = .ok (.invokestatic idx, 3)) (k : AW ad M (pc + 3) L (.int v :: S) o2 (cc + 2) (cs + 12) F) : AW ad M pc L st o cc cs F :=
  aw_cSH hG hf hl ho hn hst hcat (Nat.le_trans (Nat.add_le_add_left hc2 cc) hcc) (Nat.le_trans (Nat.add_le_add_left hs2 cs) hcs) d (fun v2 o3 q => by
    obtain ⟨q1, q2⟩ := q
    cases q1
    rw [q2]
    exact AW.wide k (Nat.add_le_add_left hc2 cc) (Nat.add_le_add_left hs2 cs)) (fun E o3 q => by obtain ⟨q1, q2⟩ := q; cases q1)
theorem aw_0V {M2 : mm_M} {v : Option Value} {o2 : wd_S} {t j i ci idx n : Nat} {As st st2 : List Value} (hG : CT ad M2 (.ref (ad t j i) :: As) o (RT v o2)) (hf : mm_fit M M2 n) (hl : Cond.methodLink (mm_my M).cls idx (mm_my M2) ∈ mm_B) (ho : cvo M2 ci) (hv : wd_v t j i) (ht : wd_k t = ci + 1) (hn : As.length = n) (hst : As.reverse ++ .ref (ad t j i) :: S = st) (hcat : (S.map fun v => v.category).sum ≤ 8) (hc0 : (mm_mo M2).cells = 0) (hs0 : (mm_mo M2).slots = 0) (hcc : cc ≤ (mm_mo M).cells) (hcs : cs ≤ (mm_mo M).slots) (hs2 : v.toList ++ S = st2) (d : decode (mm_mc M) pc = .ok (.invokevirtual idx, 3)) (k : AW ad M (pc + 3) L st2 o2 cc cs F) : AW ad M pc L st o cc cs F :=
  aw_rV hG hf hl ho hv ht hn hst hcat (by rw [hc0]; exact hcc) (by rw [hs0]; exact hcs) hs2 d (by rw [hc0, hs0]; exact k)
theorem thr_of {o : wd_S} {k : Int32} (h : o.1 12 1 = k) : CT ad MX8_thrown [.ref (ad 14 0 0)] o (RT (some (.int k)) o) := by
  have q := ct_X8_thrown (ad := ad) (o := o)
  rw [h] at q
  exact q
end
theorem fhL_addLoop {b L : Nat} {xs : Nat → Int32} : mm_fitH (ML_law b L xs) ML_addLoop 2 := mm_fitH_of ⟨by decide, by decide, by decide +kernel⟩ (by decide) wq349 wq0 (Nat.le_of_ble_eq_true rfl) (Nat.le_of_ble_eq_true rfl)
theorem fhL_addSubscriber {b L : Nat} {xs : Nat → Int32} : mm_fitH (ML_law b L xs) ML_addSubscriber 5 := mm_fitH_of ⟨by decide, by decide, by decide +kernel⟩ (by decide) wq453 wq0 (Nat.le_of_ble_eq_true rfl) (Nat.le_of_ble_eq_true rfl)
theorem fhL_set {b L : Nat} {xs : Nat → Int32} : mm_fitH (ML_law b L xs) ML_set 5 := mm_fitH_of ⟨by decide, by decide, by decide +kernel⟩ (by decide) wq517 wq0 (Nat.le_of_ble_eq_true rfl) (Nat.le_of_ble_eq_true rfl)
theorem fhL_subscriber {b L : Nat} {xs : Nat → Int32} : mm_fitH (ML_law b L xs) ML_subscriber 4 := mm_fitH_of ⟨by decide, by decide, by decide +kernel⟩ (by decide) wq539 wq0 (Nat.le_of_ble_eq_true rfl) (Nat.le_of_ble_eq_true rfl)
theorem fhL_loop {b L : Nat} {xs : Nat → Int32} : mm_fitH (ML_law b L xs) ML_loop 4 := mm_fitH_of ⟨by decide, by decide, by decide +kernel⟩ (by decide) wq547 wq0 (Nat.le_of_ble_eq_true rfl) (Nat.le_of_ble_eq_true rfl)
theorem fhL_lift {b L : Nat} {xs : Nat → Int32} : mm_fitH (ML_law b L xs) ML_lift 3 := mm_fitH_of ⟨by decide, by decide, by decide +kernel⟩ (by decide) wq554 wq0 (Nat.le_of_ble_eq_true rfl) (Nat.le_of_ble_eq_true rfl)
theorem fhL_hang {b L : Nat} {xs : Nat → Int32} : mm_fitH (ML_law b L xs) ML_hang 3 := mm_fitH_of ⟨by decide, by decide, by decide +kernel⟩ (by decide) wq597 wq0 (Nat.le_of_ble_eq_true rfl) (Nat.le_of_ble_eq_true rfl)
theorem fhL_dial {b L : Nat} {xs : Nat → Int32} : mm_fitH (ML_law b L xs) ML_dial 4 := mm_fitH_of ⟨by decide, by decide, by decide +kernel⟩ (by decide) wq623 wq0 (Nat.le_of_ble_eq_true rfl) (Nat.le_of_ble_eq_true rfl)
theorem fhL_tick {b L : Nat} {xs : Nat → Int32} : mm_fitH (ML_law b L xs) ML_tick 3 := mm_fitH_of ⟨by decide, by decide, by decide +kernel⟩ (by decide) wq644 wq0 (Nat.le_of_ble_eq_true rfl) (Nat.le_of_ble_eq_true rfl)
theorem fhL_setLimit {b L : Nat} {xs : Nat → Int32} : mm_fitH (ML_law b L xs) ML_setLimit 3 := mm_fitH_of ⟨by decide, by decide, by decide +kernel⟩ (by decide) wq680 wq0 (Nat.le_of_ble_eq_true rfl) (Nat.le_of_ble_eq_true rfl)
theorem fhL_rings {b L : Nat} {xs : Nat → Int32} : mm_fitH (ML_law b L xs) ML_rings 3 := mm_fitH_of ⟨by decide, by decide, by decide +kernel⟩ (by decide) wq688 wq0 (Nat.le_of_ble_eq_true rfl) (Nat.le_of_ble_eq_true rfl)
theorem fhL_wouldDial {b L : Nat} {xs : Nat → Int32} : mm_fitH (ML_law b L xs) ML_wouldDial 4 := mm_fitH_of ⟨by decide, by decide, by decide +kernel⟩ (by decide) wq695 wq0 (Nat.le_of_ble_eq_true rfl) (Nat.le_of_ble_eq_true rfl)
theorem fhL_told {b L : Nat} {xs : Nat → Int32} : mm_fitH (ML_law b L xs) ML_told 3 := mm_fitH_of ⟨by decide, by decide, by decide +kernel⟩ (by decide) wq703 wq0 (Nat.le_of_ble_eq_true rfl) (Nat.le_of_ble_eq_true rfl)
theorem fhL_codeLength {b L : Nat} {xs : Nat → Int32} : mm_fitH (ML_law b L xs) ML_codeLength 3 := mm_fitH_of ⟨by decide, by decide, by decide +kernel⟩ (by decide) wq710 wq0 (Nat.le_of_ble_eq_true rfl) (Nat.le_of_ble_eq_true rfl)
theorem fhL_codeRing {b L : Nat} {xs : Nat → Int32} : mm_fitH (ML_law b L xs) ML_codeRing 4 := mm_fitH_of ⟨by decide, by decide, by decide +kernel⟩ (by decide) wq719 wq0 (Nat.le_of_ble_eq_true rfl) (Nat.le_of_ble_eq_true rfl)
theorem fhL_codeCost {b L : Nat} {xs : Nat → Int32} : mm_fitH (ML_law b L xs) ML_codeCost 3 := mm_fitH_of ⟨by decide, by decide, by decide +kernel⟩ (by decide) wq728 wq0 (Nat.le_of_ble_eq_true rfl) (Nat.le_of_ble_eq_true rfl)
theorem fhL_bestCodes {b L : Nat} {xs : Nat → Int32} : mm_fitH (ML_law b L xs) ML_bestCodes 3 := mm_fitH_of ⟨by decide, by decide, by decide +kernel⟩ (by decide) wq735 wq0 (Nat.le_of_ble_eq_true rfl) (Nat.le_of_ble_eq_true rfl)
theorem fhL_assignCodes {b L : Nat} {xs : Nat → Int32} : mm_fitH (ML_law b L xs) ML_assignCodes 3 := mm_fitH_of ⟨by decide, by decide, by decide +kernel⟩ (by decide) wq759 wq0 (Nat.le_of_ble_eq_true rfl) (Nat.le_of_ble_eq_true rfl)
theorem fhL_fault {b L : Nat} {xs : Nat → Int32} : mm_fitH (ML_law b L xs) ML_fault 5 := mm_fitH_of ⟨by decide, by decide, by decide +kernel⟩ (by decide) wq771 wq0 (Nat.le_of_ble_eq_true rfl) (Nat.le_of_ble_eq_true rfl)
theorem fhL_mend {b L : Nat} {xs : Nat → Int32} : mm_fitH (ML_law b L xs) ML_mend 3 := mm_fitH_of ⟨by decide, by decide, by decide +kernel⟩ (by decide) wq789 wq0 (Nat.le_of_ble_eq_true rfl) (Nat.le_of_ble_eq_true rfl)
theorem fhL_isCut {b L : Nat} {xs : Nat → Int32} : mm_fitH (ML_law b L xs) ML_isCut 3 := mm_fitH_of ⟨by decide, by decide, by decide +kernel⟩ (by decide) wq806 wq0 (Nat.le_of_ble_eq_true rfl) (Nat.le_of_ble_eq_true rfl)
theorem fhL_setRisk {b L : Nat} {xs : Nat → Int32} : mm_fitH (ML_law b L xs) ML_setRisk 5 := mm_fitH_of ⟨by decide, by decide, by decide +kernel⟩ (by decide) wq814 wq0 (Nat.le_of_ble_eq_true rfl) (Nat.le_of_ble_eq_true rfl)
theorem fhL_test {b L : Nat} {xs : Nat → Int32} : mm_fitH (ML_law b L xs) ML_test 4 := mm_fitH_of ⟨by decide, by decide, by decide +kernel⟩ (by decide) wq822 wq0 (Nat.le_of_ble_eq_true rfl) (Nat.le_of_ble_eq_true rfl)
theorem fhL_testCost {b L : Nat} {xs : Nat → Int32} : mm_fitH (ML_law b L xs) ML_testCost 5 := mm_fitH_of ⟨by decide, by decide, by decide +kernel⟩ (by decide) wq830 wq0 (Nat.le_of_ble_eq_true rfl) (Nat.le_of_ble_eq_true rfl)
theorem fhL_bestTest {b L : Nat} {xs : Nat → Int32} : mm_fitH (ML_law b L xs) ML_bestTest 5 := mm_fitH_of ⟨by decide, by decide, by decide +kernel⟩ (by decide) wq850 wq0 (Nat.le_of_ble_eq_true rfl) (Nat.le_of_ble_eq_true rfl)
theorem fhL_testsNeeded {b L : Nat} {xs : Nat → Int32} : mm_fitH (ML_law b L xs) ML_testsNeeded 3 := mm_fitH_of ⟨by decide, by decide, by decide +kernel⟩ (by decide) wq857 wq0 (Nat.le_of_ble_eq_true rfl) (Nat.le_of_ble_eq_true rfl)
theorem fhL_undo {b L : Nat} {xs : Nat → Int32} : mm_fitH (ML_law b L xs) ML_undo 2 := mm_fitH_of ⟨by decide, by decide, by decide +kernel⟩ (by decide) wq868 wq0 (Nat.le_of_ble_eq_true rfl) (Nat.le_of_ble_eq_true rfl)
theorem bk_0 {ad : Nat → Nat → Nat → Nat} {o : wd_S} {n m c b L i : Nat} {xs : Nat → Int32} {cc cs : Nat} {F : (Option Value ⊕ String) → wd_S → Prop} (hL : L ≤ 2048) (hi : i + 4 ≤ L) (R : Rel o n m c) (hcc : cc + 2 ≤ (mm_mo (ML_law b L xs)).cells) (hcs : cs + 12 ≤ (mm_mo (ML_law b L xs)).slots) (K : ∀ o2 n m c, Rel o2 n m c → AW ad (ML_law b L xs) 1946 [some (.ref b), some (.ref (ad 7 0 0)), some (.ref (ad 14 0 0)), some (.ref (ad 16 0 0)), some (.int (nI i)), none, none] [] o2 (cc + 2) (cs + 12) F) : AW ad (ML_law b L xs) 172 [some (.ref b), some (.ref (ad 7 0 0)), some (.ref (ad 14 0 0)), some (.ref (ad 16 0 0)), some (.int (nI i)), none, none] [] o cc cs F := by
  rcases sp_addLoop (ad := ad) R  with ⟨v, o1, o2, h7, h8, hP, h12, hj, n2, m2, c2, R2⟩ | ⟨E, k, hE, h7, h8⟩
  · have hcmp : lg_cmp (o2.2.2 1) v.toInt64 = 0 := by rw [hj]; exact cmp_self _
    refine aw_aload_n (x := ad 7 0 0) rfl dL_law_172 ?_
    refine aw_aload_n (x := ad 16 0 0) rfl dL_law_173 ?_
    refine aw_L (As := [.ref (ad 7 0 0), .ref (ad 16 0 0)]) (S := []) (lwv_addLoop h7) fhL_addLoop wq347 wq348 rfl rfl (Nat.le_of_ble_eq_true rfl) (by decide) (by decide) hcc hcs dL_law_174 ?_
    refine aw_istore (L2 := [some (.ref b), some (.ref (ad 7 0 0)), some (.ref (ad 14 0 0)), some (.ref (ad 16 0 0)), some (.int (nI i)), some (.int 0), none]) (Nat.le_of_ble_eq_true rfl) rfl rfl dL_law_177 ?_
    refine aw_aload_n (x := ad 14 0 0) rfl dL_law_179 ?_
    refine aw_0V (As := []) (S := []) (v := some (.int v)) (o2 := o2) h8 (mm_fit_of cbX8_addLoop (Nat.le_of_ble_eq_true rfl) (Nat.le_of_ble_eq_true rfl)) wq926 cvX8_addLoop wv14 rfl rfl rfl (Nat.le_of_ble_eq_true rfl) rfl rfl hcc hcs rfl dL_law_180 ?_
    refine aw_istore (L2 := [some (.ref b), some (.ref (ad 7 0 0)), some (.ref (ad 14 0 0)), some (.ref (ad 16 0 0)), some (.int (nI i)), some (.int 0), some (.int v)]) (Nat.le_of_ble_eq_true rfl) rfl rfl dL_law_183 ?_
    refine aw_aload_n (x := ad 14 0 0) rfl dL_law_185 ?_
    refine aw_0V (As := []) (S := []) (v := some (.int 0)) (o2 := o2) (thr_of h12) (mm_fit_of cbX8_thrown (Nat.le_of_ble_eq_true rfl) (Nat.le_of_ble_eq_true rfl)) wq914 cvX8_thrown wv14 rfl rfl rfl (Nat.le_of_ble_eq_true rfl) rfl rfl hcc hcs rfl dL_law_186 ?_
    refine aw_iload (x := 0) rfl dL_law_189 ?_
    refine aw_icmp_eq (tgt := 196) (by decide) dL_law_191 (fun _ => ?_) (fun z => absurd rfl z)
    refine aw_iload (x := 0) rfl dL_law_196 ?_
    refine aw_if_ne (tgt := 213) (by decide) dL_law_198 (fun z => absurd rfl z) (fun _ => ?_)
    refine aw_aload_n (x := ad 16 0 0) rfl dL_law_201 ?_
    refine aw_iconst (v := 0) (by decide) dL_law_202 ?_
    refine aw_lld rfl dL_law_203 ?_
    refine aw_iload (x := v) rfl dL_law_204 ?_
    refine aw_i2l dL_law_206 ?_
    refine aw_lcmp dL_law_207 ?_
    refine aw_if_eq (tgt := 213) (by decide) dL_law_208 (fun _ => ?_) (fun z => absurd hcmp z)
    refine aw_goto (tgt := 1946) (by decide) dL_law_213 ?_
    exact AW.locs (K o2 n2 m2 c2 R2) (lsub_keep (lsub_keep (lsub_keep (lsub_keep (lsub_keep (lsub_none (lsub_none lsub_nil)))))))
  · simp only [List.mem_cons, Prod.mk.injEq, List.not_mem_nil, or_false] at hE
    obtain ⟨rfl, rfl⟩ := hE
    refine aw_aload_n (x := ad 7 0 0) rfl dL_law_172 ?_
    refine aw_aload_n (x := ad 16 0 0) rfl dL_law_173 ?_
    refine aw_L (As := [.ref (ad 7 0 0), .ref (ad 16 0 0)]) (S := []) (lwx_addLoop_eS h7) fhL_addLoop wq347 wq348 rfl rfl (Nat.le_of_ble_eq_true rfl) (by decide) (by decide) hcc hcs dL_law_174 ?_
    refine aw_istore (L2 := [some (.ref b), some (.ref (ad 7 0 0)), some (.ref (ad 14 0 0)), some (.ref (ad 16 0 0)), some (.int (nI i)), some (.int 1), none]) (Nat.le_of_ble_eq_true rfl) rfl rfl dL_law_177 ?_
    refine aw_aload_n (x := ad 14 0 0) rfl dL_law_179 ?_
    refine aw_0V (As := []) (S := []) (v := some (.int 0)) (o2 := (wd_w o 12 1 1)) h8 (mm_fit_of cbX8_addLoop (Nat.le_of_ble_eq_true rfl) (Nat.le_of_ble_eq_true rfl)) wq926 cvX8_addLoop wv14 rfl rfl rfl (Nat.le_of_ble_eq_true rfl) rfl rfl hcc hcs rfl dL_law_180 ?_
    refine aw_istore (L2 := [some (.ref b), some (.ref (ad 7 0 0)), some (.ref (ad 14 0 0)), some (.ref (ad 16 0 0)), some (.int (nI i)), some (.int 1), some (.int 0)]) (Nat.le_of_ble_eq_true rfl) rfl rfl dL_law_183 ?_
    refine aw_aload_n (x := ad 14 0 0) rfl dL_law_185 ?_
    refine aw_0V (As := []) (S := []) (v := some (.int 1)) (o2 := (wd_w o 12 1 1)) (thr_of (by rw [wd_get, if_pos ⟨rfl, rfl⟩])) (mm_fit_of cbX8_thrown (Nat.le_of_ble_eq_true rfl) (Nat.le_of_ble_eq_true rfl)) wq914 cvX8_thrown wv14 rfl rfl rfl (Nat.le_of_ble_eq_true rfl) rfl rfl hcc hcs rfl dL_law_186 ?_
    refine aw_iload (x := 1) rfl dL_law_189 ?_
    refine aw_icmp_eq (tgt := 196) (by decide) dL_law_191 (fun _ => ?_) (fun z => absurd rfl z)
    refine aw_iload (x := 1) rfl dL_law_196 ?_
    refine aw_if_ne (tgt := 213) (by decide) dL_law_198 (fun _ => ?_) (fun z => absurd z (by decide))
    refine aw_goto (tgt := 1946) (by decide) dL_law_213 ?_
    exact AW.locs (K _ n m c (R.w 1)) (lsub_keep (lsub_keep (lsub_keep (lsub_keep (lsub_keep (lsub_none (lsub_none lsub_nil)))))))
theorem bk_1 {ad : Nat → Nat → Nat → Nat} {o : wd_S} {n m c b L i : Nat} {xs : Nat → Int32} {cc cs : Nat} {F : (Option Value ⊕ String) → wd_S → Prop} (hL : L ≤ 2048) (hi : i + 4 ≤ L) (R : Rel o n m c) (hcc : cc + 2 ≤ (mm_mo (ML_law b L xs)).cells) (hcs : cs + 12 ≤ (mm_mo (ML_law b L xs)).slots) (K : ∀ o2 n m c, Rel o2 n m c → AW ad (ML_law b L xs) 1946 [some (.ref b), some (.ref (ad 7 0 0)), some (.ref (ad 14 0 0)), some (.ref (ad 16 0 0)), some (.int (nI i)), none, none] [] o2 (cc + 2) (cs + 12) F) : AW ad (ML_law b L xs) 216 [some (.ref b), some (.ref (ad 7 0 0)), some (.ref (ad 14 0 0)), some (.ref (ad 16 0 0)), some (.int (nI i)), none, none] [] o cc cs F := by
  rcases sp_addSub (ad := ad) R (x := xs (i + 1)) (p := xs (i + 2)) (q := xs (i + 3)) with ⟨v, o1, o2, h7, h8, hP, h12, hj, n2, m2, c2, R2⟩ | ⟨E, k, hE, h7, h8⟩
  · have hcmp : lg_cmp (o2.2.2 1) v.toInt64 = 0 := by rw [hj]; exact cmp_self _
    refine aw_aload_n (x := ad 7 0 0) rfl dL_law_216 ?_
    refine aw_aload_n (x := b) rfl dL_law_217 ?_
    refine aw_iload (x := (nI i)) rfl dL_law_218 ?_
    refine aw_iconst (v := 1) (by decide) dL_law_220 ?_
    refine aw_iaddz (z := nI (i + 1)) (nI_add i 1) dL_law_221 ?_
    refine aw_sld (v := xs (i + 1)) rfl (nI_in (by omega) (by omega)) (by rw [nI_clamp (by omega)]) dL_law_222 ?_
    refine aw_aload_n (x := b) rfl dL_law_223 ?_
    refine aw_iload (x := (nI i)) rfl dL_law_224 ?_
    refine aw_iconst (v := 2) (by decide) dL_law_226 ?_
    refine aw_iaddz (z := nI (i + 2)) (nI_add i 2) dL_law_227 ?_
    refine aw_sld (v := xs (i + 2)) rfl (nI_in (by omega) (by omega)) (by rw [nI_clamp (by omega)]) dL_law_228 ?_
    refine aw_aload_n (x := b) rfl dL_law_229 ?_
    refine aw_iload (x := (nI i)) rfl dL_law_230 ?_
    refine aw_iconst (v := 3) (by decide) dL_law_232 ?_
    refine aw_iaddz (z := nI (i + 3)) (nI_add i 3) dL_law_233 ?_
    refine aw_sld (v := xs (i + 3)) rfl (nI_in (by omega) (by omega)) (by rw [nI_clamp (by omega)]) dL_law_234 ?_
    refine aw_aload_n (x := ad 16 0 0) rfl dL_law_235 ?_
    refine aw_L (As := [.ref (ad 7 0 0), .int (xs (i + 1)), .int (xs (i + 2)), .int (xs (i + 3)), .ref (ad 16 0 0)]) (S := []) (lwv_addSubscriber h7) fhL_addSubscriber wq451 wq452 rfl rfl (Nat.le_of_ble_eq_true rfl) (by decide) (by decide) hcc hcs dL_law_236 ?_
    refine aw_istore (L2 := [some (.ref b), some (.ref (ad 7 0 0)), some (.ref (ad 14 0 0)), some (.ref (ad 16 0 0)), some (.int (nI i)), some (.int 0), none]) (Nat.le_of_ble_eq_true rfl) rfl rfl dL_law_239 ?_
    refine aw_aload_n (x := ad 14 0 0) rfl dL_law_241 ?_
    refine aw_aload_n (x := b) rfl dL_law_242 ?_
    refine aw_iload (x := (nI i)) rfl dL_law_243 ?_
    refine aw_iconst (v := 1) (by decide) dL_law_245 ?_
    refine aw_iaddz (z := nI (i + 1)) (nI_add i 1) dL_law_246 ?_
    refine aw_sld (v := xs (i + 1)) rfl (nI_in (by omega) (by omega)) (by rw [nI_clamp (by omega)]) dL_law_247 ?_
    refine aw_aload_n (x := b) rfl dL_law_248 ?_
    refine aw_iload (x := (nI i)) rfl dL_law_249 ?_
    refine aw_iconst (v := 2) (by decide) dL_law_251 ?_
    refine aw_iaddz (z := nI (i + 2)) (nI_add i 2) dL_law_252 ?_
    refine aw_sld (v := xs (i + 2)) rfl (nI_in (by omega) (by omega)) (by rw [nI_clamp (by omega)]) dL_law_253 ?_
    refine aw_aload_n (x := b) rfl dL_law_254 ?_
    refine aw_iload (x := (nI i)) rfl dL_law_255 ?_
    refine aw_iconst (v := 3) (by decide) dL_law_257 ?_
    refine aw_iaddz (z := nI (i + 3)) (nI_add i 3) dL_law_258 ?_
    refine aw_sld (v := xs (i + 3)) rfl (nI_in (by omega) (by omega)) (by rw [nI_clamp (by omega)]) dL_law_259 ?_
    refine aw_0V (As := [.int (xs (i + 1)), .int (xs (i + 2)), .int (xs (i + 3))]) (S := []) (v := some (.int v)) (o2 := o2) h8 (mm_fit_of cbX8_addSubscriber (Nat.le_of_ble_eq_true rfl) (Nat.le_of_ble_eq_true rfl)) wq934 cvX8_addSubscriber wv14 rfl rfl rfl (Nat.le_of_ble_eq_true rfl) rfl rfl hcc hcs rfl dL_law_260 ?_
    refine aw_istore (L2 := [some (.ref b), some (.ref (ad 7 0 0)), some (.ref (ad 14 0 0)), some (.ref (ad 16 0 0)), some (.int (nI i)), some (.int 0), some (.int v)]) (Nat.le_of_ble_eq_true rfl) rfl rfl dL_law_263 ?_
    refine aw_aload_n (x := ad 14 0 0) rfl dL_law_265 ?_
    refine aw_0V (As := []) (S := []) (v := some (.int 0)) (o2 := o2) (thr_of h12) (mm_fit_of cbX8_thrown (Nat.le_of_ble_eq_true rfl) (Nat.le_of_ble_eq_true rfl)) wq914 cvX8_thrown wv14 rfl rfl rfl (Nat.le_of_ble_eq_true rfl) rfl rfl hcc hcs rfl dL_law_266 ?_
    refine aw_iload (x := 0) rfl dL_law_269 ?_
    refine aw_icmp_eq (tgt := 276) (by decide) dL_law_271 (fun _ => ?_) (fun z => absurd rfl z)
    refine aw_iload (x := 0) rfl dL_law_276 ?_
    refine aw_if_ne (tgt := 293) (by decide) dL_law_278 (fun z => absurd rfl z) (fun _ => ?_)
    refine aw_aload_n (x := ad 16 0 0) rfl dL_law_281 ?_
    refine aw_iconst (v := 0) (by decide) dL_law_282 ?_
    refine aw_lld rfl dL_law_283 ?_
    refine aw_iload (x := v) rfl dL_law_284 ?_
    refine aw_i2l dL_law_286 ?_
    refine aw_lcmp dL_law_287 ?_
    refine aw_if_eq (tgt := 293) (by decide) dL_law_288 (fun _ => ?_) (fun z => absurd hcmp z)
    refine aw_goto (tgt := 1946) (by decide) dL_law_293 ?_
    exact AW.locs (K o2 n2 m2 c2 R2) (lsub_keep (lsub_keep (lsub_keep (lsub_keep (lsub_keep (lsub_none (lsub_none lsub_nil)))))))
  · simp only [List.mem_cons, Prod.mk.injEq, List.not_mem_nil, or_false] at hE
    rcases hE with ⟨rfl, rfl⟩ | ⟨rfl, rfl⟩ | ⟨rfl, rfl⟩
    · skip
      refine aw_aload_n (x := ad 7 0 0) rfl dL_law_216 ?_
      refine aw_aload_n (x := b) rfl dL_law_217 ?_
      refine aw_iload (x := (nI i)) rfl dL_law_218 ?_
      refine aw_iconst (v := 1) (by decide) dL_law_220 ?_
      refine aw_iaddz (z := nI (i + 1)) (nI_add i 1) dL_law_221 ?_
      refine aw_sld (v := xs (i + 1)) rfl (nI_in (by omega) (by omega)) (by rw [nI_clamp (by omega)]) dL_law_222 ?_
      refine aw_aload_n (x := b) rfl dL_law_223 ?_
      refine aw_iload (x := (nI i)) rfl dL_law_224 ?_
      refine aw_iconst (v := 2) (by decide) dL_law_226 ?_
      refine aw_iaddz (z := nI (i + 2)) (nI_add i 2) dL_law_227 ?_
      refine aw_sld (v := xs (i + 2)) rfl (nI_in (by omega) (by omega)) (by rw [nI_clamp (by omega)]) dL_law_228 ?_
      refine aw_aload_n (x := b) rfl dL_law_229 ?_
      refine aw_iload (x := (nI i)) rfl dL_law_230 ?_
      refine aw_iconst (v := 3) (by decide) dL_law_232 ?_
      refine aw_iaddz (z := nI (i + 3)) (nI_add i 3) dL_law_233 ?_
      refine aw_sld (v := xs (i + 3)) rfl (nI_in (by omega) (by omega)) (by rw [nI_clamp (by omega)]) dL_law_234 ?_
      refine aw_aload_n (x := ad 16 0 0) rfl dL_law_235 ?_
      refine aw_L (As := [.ref (ad 7 0 0), .int (xs (i + 1)), .int (xs (i + 2)), .int (xs (i + 3)), .ref (ad 16 0 0)]) (S := []) (lwx_addSubscriber_eI h7) fhL_addSubscriber wq451 wq452 rfl rfl (Nat.le_of_ble_eq_true rfl) (by decide) (by decide) hcc hcs dL_law_236 ?_
      refine aw_istore (L2 := [some (.ref b), some (.ref (ad 7 0 0)), some (.ref (ad 14 0 0)), some (.ref (ad 16 0 0)), some (.int (nI i)), some (.int 1), none]) (Nat.le_of_ble_eq_true rfl) rfl rfl dL_law_239 ?_
      refine aw_aload_n (x := ad 14 0 0) rfl dL_law_241 ?_
      refine aw_aload_n (x := b) rfl dL_law_242 ?_
      refine aw_iload (x := (nI i)) rfl dL_law_243 ?_
      refine aw_iconst (v := 1) (by decide) dL_law_245 ?_
      refine aw_iaddz (z := nI (i + 1)) (nI_add i 1) dL_law_246 ?_
      refine aw_sld (v := xs (i + 1)) rfl (nI_in (by omega) (by omega)) (by rw [nI_clamp (by omega)]) dL_law_247 ?_
      refine aw_aload_n (x := b) rfl dL_law_248 ?_
      refine aw_iload (x := (nI i)) rfl dL_law_249 ?_
      refine aw_iconst (v := 2) (by decide) dL_law_251 ?_
      refine aw_iaddz (z := nI (i + 2)) (nI_add i 2) dL_law_252 ?_
      refine aw_sld (v := xs (i + 2)) rfl (nI_in (by omega) (by omega)) (by rw [nI_clamp (by omega)]) dL_law_253 ?_
      refine aw_aload_n (x := b) rfl dL_law_254 ?_
      refine aw_iload (x := (nI i)) rfl dL_law_255 ?_
      refine aw_iconst (v := 3) (by decide) dL_law_257 ?_
      refine aw_iaddz (z := nI (i + 3)) (nI_add i 3) dL_law_258 ?_
      refine aw_sld (v := xs (i + 3)) rfl (nI_in (by omega) (by omega)) (by rw [nI_clamp (by omega)]) dL_law_259 ?_
      refine aw_0V (As := [.int (xs (i + 1)), .int (xs (i + 2)), .int (xs (i + 3))]) (S := []) (v := some (.int 0)) (o2 := (wd_w o 12 1 1)) h8 (mm_fit_of cbX8_addSubscriber (Nat.le_of_ble_eq_true rfl) (Nat.le_of_ble_eq_true rfl)) wq934 cvX8_addSubscriber wv14 rfl rfl rfl (Nat.le_of_ble_eq_true rfl) rfl rfl hcc hcs rfl dL_law_260 ?_
      refine aw_istore (L2 := [some (.ref b), some (.ref (ad 7 0 0)), some (.ref (ad 14 0 0)), some (.ref (ad 16 0 0)), some (.int (nI i)), some (.int 1), some (.int 0)]) (Nat.le_of_ble_eq_true rfl) rfl rfl dL_law_263 ?_
      refine aw_aload_n (x := ad 14 0 0) rfl dL_law_265 ?_
      refine aw_0V (As := []) (S := []) (v := some (.int 1)) (o2 := (wd_w o 12 1 1)) (thr_of (by rw [wd_get, if_pos ⟨rfl, rfl⟩])) (mm_fit_of cbX8_thrown (Nat.le_of_ble_eq_true rfl) (Nat.le_of_ble_eq_true rfl)) wq914 cvX8_thrown wv14 rfl rfl rfl (Nat.le_of_ble_eq_true rfl) rfl rfl hcc hcs rfl dL_law_266 ?_
      refine aw_iload (x := 1) rfl dL_law_269 ?_
      refine aw_icmp_eq (tgt := 276) (by decide) dL_law_271 (fun _ => ?_) (fun z => absurd rfl z)
      refine aw_iload (x := 1) rfl dL_law_276 ?_
      refine aw_if_ne (tgt := 293) (by decide) dL_law_278 (fun _ => ?_) (fun z => absurd z (by decide))
      refine aw_goto (tgt := 1946) (by decide) dL_law_293 ?_
      exact AW.locs (K _ n m c (R.w 1)) (lsub_keep (lsub_keep (lsub_keep (lsub_keep (lsub_keep (lsub_none (lsub_none lsub_nil)))))))
    · skip
      refine aw_aload_n (x := ad 7 0 0) rfl dL_law_216 ?_
      refine aw_aload_n (x := b) rfl dL_law_217 ?_
      refine aw_iload (x := (nI i)) rfl dL_law_218 ?_
      refine aw_iconst (v := 1) (by decide) dL_law_220 ?_
      refine aw_iaddz (z := nI (i + 1)) (nI_add i 1) dL_law_221 ?_
      refine aw_sld (v := xs (i + 1)) rfl (nI_in (by omega) (by omega)) (by rw [nI_clamp (by omega)]) dL_law_222 ?_
      refine aw_aload_n (x := b) rfl dL_law_223 ?_
      refine aw_iload (x := (nI i)) rfl dL_law_224 ?_
      refine aw_iconst (v := 2) (by decide) dL_law_226 ?_
      refine aw_iaddz (z := nI (i + 2)) (nI_add i 2) dL_law_227 ?_
      refine aw_sld (v := xs (i + 2)) rfl (nI_in (by omega) (by omega)) (by rw [nI_clamp (by omega)]) dL_law_228 ?_
      refine aw_aload_n (x := b) rfl dL_law_229 ?_
      refine aw_iload (x := (nI i)) rfl dL_law_230 ?_
      refine aw_iconst (v := 3) (by decide) dL_law_232 ?_
      refine aw_iaddz (z := nI (i + 3)) (nI_add i 3) dL_law_233 ?_
      refine aw_sld (v := xs (i + 3)) rfl (nI_in (by omega) (by omega)) (by rw [nI_clamp (by omega)]) dL_law_234 ?_
      refine aw_aload_n (x := ad 16 0 0) rfl dL_law_235 ?_
      refine aw_L (As := [.ref (ad 7 0 0), .int (xs (i + 1)), .int (xs (i + 2)), .int (xs (i + 3)), .ref (ad 16 0 0)]) (S := []) (lwx_addSubscriber_eA h7) fhL_addSubscriber wq451 wq452 rfl rfl (Nat.le_of_ble_eq_true rfl) (by decide) (by decide) hcc hcs dL_law_236 ?_
      refine aw_istore (L2 := [some (.ref b), some (.ref (ad 7 0 0)), some (.ref (ad 14 0 0)), some (.ref (ad 16 0 0)), some (.int (nI i)), some (.int 2), none]) (Nat.le_of_ble_eq_true rfl) rfl rfl dL_law_239 ?_
      refine aw_aload_n (x := ad 14 0 0) rfl dL_law_241 ?_
      refine aw_aload_n (x := b) rfl dL_law_242 ?_
      refine aw_iload (x := (nI i)) rfl dL_law_243 ?_
      refine aw_iconst (v := 1) (by decide) dL_law_245 ?_
      refine aw_iaddz (z := nI (i + 1)) (nI_add i 1) dL_law_246 ?_
      refine aw_sld (v := xs (i + 1)) rfl (nI_in (by omega) (by omega)) (by rw [nI_clamp (by omega)]) dL_law_247 ?_
      refine aw_aload_n (x := b) rfl dL_law_248 ?_
      refine aw_iload (x := (nI i)) rfl dL_law_249 ?_
      refine aw_iconst (v := 2) (by decide) dL_law_251 ?_
      refine aw_iaddz (z := nI (i + 2)) (nI_add i 2) dL_law_252 ?_
      refine aw_sld (v := xs (i + 2)) rfl (nI_in (by omega) (by omega)) (by rw [nI_clamp (by omega)]) dL_law_253 ?_
      refine aw_aload_n (x := b) rfl dL_law_254 ?_
      refine aw_iload (x := (nI i)) rfl dL_law_255 ?_
      refine aw_iconst (v := 3) (by decide) dL_law_257 ?_
      refine aw_iaddz (z := nI (i + 3)) (nI_add i 3) dL_law_258 ?_
      refine aw_sld (v := xs (i + 3)) rfl (nI_in (by omega) (by omega)) (by rw [nI_clamp (by omega)]) dL_law_259 ?_
      refine aw_0V (As := [.int (xs (i + 1)), .int (xs (i + 2)), .int (xs (i + 3))]) (S := []) (v := some (.int 0)) (o2 := (wd_w o 12 1 2)) h8 (mm_fit_of cbX8_addSubscriber (Nat.le_of_ble_eq_true rfl) (Nat.le_of_ble_eq_true rfl)) wq934 cvX8_addSubscriber wv14 rfl rfl rfl (Nat.le_of_ble_eq_true rfl) rfl rfl hcc hcs rfl dL_law_260 ?_
      refine aw_istore (L2 := [some (.ref b), some (.ref (ad 7 0 0)), some (.ref (ad 14 0 0)), some (.ref (ad 16 0 0)), some (.int (nI i)), some (.int 2), some (.int 0)]) (Nat.le_of_ble_eq_true rfl) rfl rfl dL_law_263 ?_
      refine aw_aload_n (x := ad 14 0 0) rfl dL_law_265 ?_
      refine aw_0V (As := []) (S := []) (v := some (.int 2)) (o2 := (wd_w o 12 1 2)) (thr_of (by rw [wd_get, if_pos ⟨rfl, rfl⟩])) (mm_fit_of cbX8_thrown (Nat.le_of_ble_eq_true rfl) (Nat.le_of_ble_eq_true rfl)) wq914 cvX8_thrown wv14 rfl rfl rfl (Nat.le_of_ble_eq_true rfl) rfl rfl hcc hcs rfl dL_law_266 ?_
      refine aw_iload (x := 2) rfl dL_law_269 ?_
      refine aw_icmp_eq (tgt := 276) (by decide) dL_law_271 (fun _ => ?_) (fun z => absurd rfl z)
      refine aw_iload (x := 2) rfl dL_law_276 ?_
      refine aw_if_ne (tgt := 293) (by decide) dL_law_278 (fun _ => ?_) (fun z => absurd z (by decide))
      refine aw_goto (tgt := 1946) (by decide) dL_law_293 ?_
      exact AW.locs (K _ n m c (R.w 2)) (lsub_keep (lsub_keep (lsub_keep (lsub_keep (lsub_keep (lsub_none (lsub_none lsub_nil)))))))
    · skip
      refine aw_aload_n (x := ad 7 0 0) rfl dL_law_216 ?_
      refine aw_aload_n (x := b) rfl dL_law_217 ?_
      refine aw_iload (x := (nI i)) rfl dL_law_218 ?_
      refine aw_iconst (v := 1) (by decide) dL_law_220 ?_
      refine aw_iaddz (z := nI (i + 1)) (nI_add i 1) dL_law_221 ?_
      refine aw_sld (v := xs (i + 1)) rfl (nI_in (by omega) (by omega)) (by rw [nI_clamp (by omega)]) dL_law_222 ?_
      refine aw_aload_n (x := b) rfl dL_law_223 ?_
      refine aw_iload (x := (nI i)) rfl dL_law_224 ?_
      refine aw_iconst (v := 2) (by decide) dL_law_226 ?_
      refine aw_iaddz (z := nI (i + 2)) (nI_add i 2) dL_law_227 ?_
      refine aw_sld (v := xs (i + 2)) rfl (nI_in (by omega) (by omega)) (by rw [nI_clamp (by omega)]) dL_law_228 ?_
      refine aw_aload_n (x := b) rfl dL_law_229 ?_
      refine aw_iload (x := (nI i)) rfl dL_law_230 ?_
      refine aw_iconst (v := 3) (by decide) dL_law_232 ?_
      refine aw_iaddz (z := nI (i + 3)) (nI_add i 3) dL_law_233 ?_
      refine aw_sld (v := xs (i + 3)) rfl (nI_in (by omega) (by omega)) (by rw [nI_clamp (by omega)]) dL_law_234 ?_
      refine aw_aload_n (x := ad 16 0 0) rfl dL_law_235 ?_
      refine aw_L (As := [.ref (ad 7 0 0), .int (xs (i + 1)), .int (xs (i + 2)), .int (xs (i + 3)), .ref (ad 16 0 0)]) (S := []) (lwx_addSubscriber_eS h7) fhL_addSubscriber wq451 wq452 rfl rfl (Nat.le_of_ble_eq_true rfl) (by decide) (by decide) hcc hcs dL_law_236 ?_
      refine aw_istore (L2 := [some (.ref b), some (.ref (ad 7 0 0)), some (.ref (ad 14 0 0)), some (.ref (ad 16 0 0)), some (.int (nI i)), some (.int 3), none]) (Nat.le_of_ble_eq_true rfl) rfl rfl dL_law_239 ?_
      refine aw_aload_n (x := ad 14 0 0) rfl dL_law_241 ?_
      refine aw_aload_n (x := b) rfl dL_law_242 ?_
      refine aw_iload (x := (nI i)) rfl dL_law_243 ?_
      refine aw_iconst (v := 1) (by decide) dL_law_245 ?_
      refine aw_iaddz (z := nI (i + 1)) (nI_add i 1) dL_law_246 ?_
      refine aw_sld (v := xs (i + 1)) rfl (nI_in (by omega) (by omega)) (by rw [nI_clamp (by omega)]) dL_law_247 ?_
      refine aw_aload_n (x := b) rfl dL_law_248 ?_
      refine aw_iload (x := (nI i)) rfl dL_law_249 ?_
      refine aw_iconst (v := 2) (by decide) dL_law_251 ?_
      refine aw_iaddz (z := nI (i + 2)) (nI_add i 2) dL_law_252 ?_
      refine aw_sld (v := xs (i + 2)) rfl (nI_in (by omega) (by omega)) (by rw [nI_clamp (by omega)]) dL_law_253 ?_
      refine aw_aload_n (x := b) rfl dL_law_254 ?_
      refine aw_iload (x := (nI i)) rfl dL_law_255 ?_
      refine aw_iconst (v := 3) (by decide) dL_law_257 ?_
      refine aw_iaddz (z := nI (i + 3)) (nI_add i 3) dL_law_258 ?_
      refine aw_sld (v := xs (i + 3)) rfl (nI_in (by omega) (by omega)) (by rw [nI_clamp (by omega)]) dL_law_259 ?_
      refine aw_0V (As := [.int (xs (i + 1)), .int (xs (i + 2)), .int (xs (i + 3))]) (S := []) (v := some (.int 0)) (o2 := (wd_w o 12 1 3)) h8 (mm_fit_of cbX8_addSubscriber (Nat.le_of_ble_eq_true rfl) (Nat.le_of_ble_eq_true rfl)) wq934 cvX8_addSubscriber wv14 rfl rfl rfl (Nat.le_of_ble_eq_true rfl) rfl rfl hcc hcs rfl dL_law_260 ?_
      refine aw_istore (L2 := [some (.ref b), some (.ref (ad 7 0 0)), some (.ref (ad 14 0 0)), some (.ref (ad 16 0 0)), some (.int (nI i)), some (.int 3), some (.int 0)]) (Nat.le_of_ble_eq_true rfl) rfl rfl dL_law_263 ?_
      refine aw_aload_n (x := ad 14 0 0) rfl dL_law_265 ?_
      refine aw_0V (As := []) (S := []) (v := some (.int 3)) (o2 := (wd_w o 12 1 3)) (thr_of (by rw [wd_get, if_pos ⟨rfl, rfl⟩])) (mm_fit_of cbX8_thrown (Nat.le_of_ble_eq_true rfl) (Nat.le_of_ble_eq_true rfl)) wq914 cvX8_thrown wv14 rfl rfl rfl (Nat.le_of_ble_eq_true rfl) rfl rfl hcc hcs rfl dL_law_266 ?_
      refine aw_iload (x := 3) rfl dL_law_269 ?_
      refine aw_icmp_eq (tgt := 276) (by decide) dL_law_271 (fun _ => ?_) (fun z => absurd rfl z)
      refine aw_iload (x := 3) rfl dL_law_276 ?_
      refine aw_if_ne (tgt := 293) (by decide) dL_law_278 (fun _ => ?_) (fun z => absurd z (by decide))
      refine aw_goto (tgt := 1946) (by decide) dL_law_293 ?_
      exact AW.locs (K _ n m c (R.w 3)) (lsub_keep (lsub_keep (lsub_keep (lsub_keep (lsub_keep (lsub_none (lsub_none lsub_nil)))))))
theorem bk_2 {ad : Nat → Nat → Nat → Nat} {o : wd_S} {n m c b L i : Nat} {xs : Nat → Int32} {cc cs : Nat} {F : (Option Value ⊕ String) → wd_S → Prop} (hL : L ≤ 2048) (hi : i + 4 ≤ L) (R : Rel o n m c) (hcc : cc + 2 ≤ (mm_mo (ML_law b L xs)).cells) (hcs : cs + 12 ≤ (mm_mo (ML_law b L xs)).slots) (K : ∀ o2 n m c, Rel o2 n m c → AW ad (ML_law b L xs) 1946 [some (.ref b), some (.ref (ad 7 0 0)), some (.ref (ad 14 0 0)), some (.ref (ad 16 0 0)), some (.int (nI i)), none, none] [] o2 (cc + 2) (cs + 12) F) : AW ad (ML_law b L xs) 296 [some (.ref b), some (.ref (ad 7 0 0)), some (.ref (ad 14 0 0)), some (.ref (ad 16 0 0)), some (.int (nI i)), none, none] [] o cc cs F := by
  rcases sp_set (ad := ad) R (x := xs (i + 1)) (w := xs (i + 2)) (v := xs (i + 3)) with ⟨v, o1, o2, h7, h8, hP, h12, hj, n2, m2, c2, R2⟩ | ⟨E, k, hE, h7, h8⟩
  · have hcmp : lg_cmp (o2.2.2 1) v.toInt64 = 0 := by rw [hj]; exact cmp_self _
    refine aw_aload_n (x := ad 7 0 0) rfl dL_law_296 ?_
    refine aw_aload_n (x := b) rfl dL_law_297 ?_
    refine aw_iload (x := (nI i)) rfl dL_law_298 ?_
    refine aw_iconst (v := 1) (by decide) dL_law_300 ?_
    refine aw_iaddz (z := nI (i + 1)) (nI_add i 1) dL_law_301 ?_
    refine aw_sld (v := xs (i + 1)) rfl (nI_in (by omega) (by omega)) (by rw [nI_clamp (by omega)]) dL_law_302 ?_
    refine aw_aload_n (x := b) rfl dL_law_303 ?_
    refine aw_iload (x := (nI i)) rfl dL_law_304 ?_
    refine aw_iconst (v := 2) (by decide) dL_law_306 ?_
    refine aw_iaddz (z := nI (i + 2)) (nI_add i 2) dL_law_307 ?_
    refine aw_sld (v := xs (i + 2)) rfl (nI_in (by omega) (by omega)) (by rw [nI_clamp (by omega)]) dL_law_308 ?_
    refine aw_aload_n (x := b) rfl dL_law_309 ?_
    refine aw_iload (x := (nI i)) rfl dL_law_310 ?_
    refine aw_iconst (v := 3) (by decide) dL_law_312 ?_
    refine aw_iaddz (z := nI (i + 3)) (nI_add i 3) dL_law_313 ?_
    refine aw_sld (v := xs (i + 3)) rfl (nI_in (by omega) (by omega)) (by rw [nI_clamp (by omega)]) dL_law_314 ?_
    refine aw_aload_n (x := ad 16 0 0) rfl dL_law_315 ?_
    refine aw_L (As := [.ref (ad 7 0 0), .int (xs (i + 1)), .int (xs (i + 2)), .int (xs (i + 3)), .ref (ad 16 0 0)]) (S := []) (lwv_set h7) fhL_set wq515 wq516 rfl rfl (Nat.le_of_ble_eq_true rfl) (by decide) (by decide) hcc hcs dL_law_316 ?_
    refine aw_istore (L2 := [some (.ref b), some (.ref (ad 7 0 0)), some (.ref (ad 14 0 0)), some (.ref (ad 16 0 0)), some (.int (nI i)), some (.int 0), none]) (Nat.le_of_ble_eq_true rfl) rfl rfl dL_law_319 ?_
    refine aw_aload_n (x := ad 14 0 0) rfl dL_law_321 ?_
    refine aw_aload_n (x := b) rfl dL_law_322 ?_
    refine aw_iload (x := (nI i)) rfl dL_law_323 ?_
    refine aw_iconst (v := 1) (by decide) dL_law_325 ?_
    refine aw_iaddz (z := nI (i + 1)) (nI_add i 1) dL_law_326 ?_
    refine aw_sld (v := xs (i + 1)) rfl (nI_in (by omega) (by omega)) (by rw [nI_clamp (by omega)]) dL_law_327 ?_
    refine aw_aload_n (x := b) rfl dL_law_328 ?_
    refine aw_iload (x := (nI i)) rfl dL_law_329 ?_
    refine aw_iconst (v := 2) (by decide) dL_law_331 ?_
    refine aw_iaddz (z := nI (i + 2)) (nI_add i 2) dL_law_332 ?_
    refine aw_sld (v := xs (i + 2)) rfl (nI_in (by omega) (by omega)) (by rw [nI_clamp (by omega)]) dL_law_333 ?_
    refine aw_aload_n (x := b) rfl dL_law_334 ?_
    refine aw_iload (x := (nI i)) rfl dL_law_335 ?_
    refine aw_iconst (v := 3) (by decide) dL_law_337 ?_
    refine aw_iaddz (z := nI (i + 3)) (nI_add i 3) dL_law_338 ?_
    refine aw_sld (v := xs (i + 3)) rfl (nI_in (by omega) (by omega)) (by rw [nI_clamp (by omega)]) dL_law_339 ?_
    refine aw_0V (As := [.int (xs (i + 1)), .int (xs (i + 2)), .int (xs (i + 3))]) (S := []) (v := some (.int v)) (o2 := o2) h8 (mm_fit_of cbX8_set (Nat.le_of_ble_eq_true rfl) (Nat.le_of_ble_eq_true rfl)) wq957 cvX8_set wv14 rfl rfl rfl (Nat.le_of_ble_eq_true rfl) rfl rfl hcc hcs rfl dL_law_340 ?_
    refine aw_istore (L2 := [some (.ref b), some (.ref (ad 7 0 0)), some (.ref (ad 14 0 0)), some (.ref (ad 16 0 0)), some (.int (nI i)), some (.int 0), some (.int v)]) (Nat.le_of_ble_eq_true rfl) rfl rfl dL_law_343 ?_
    refine aw_aload_n (x := ad 14 0 0) rfl dL_law_345 ?_
    refine aw_0V (As := []) (S := []) (v := some (.int 0)) (o2 := o2) (thr_of h12) (mm_fit_of cbX8_thrown (Nat.le_of_ble_eq_true rfl) (Nat.le_of_ble_eq_true rfl)) wq914 cvX8_thrown wv14 rfl rfl rfl (Nat.le_of_ble_eq_true rfl) rfl rfl hcc hcs rfl dL_law_346 ?_
    refine aw_iload (x := 0) rfl dL_law_349 ?_
    refine aw_icmp_eq (tgt := 356) (by decide) dL_law_351 (fun _ => ?_) (fun z => absurd rfl z)
    refine aw_iload (x := 0) rfl dL_law_356 ?_
    refine aw_if_ne (tgt := 373) (by decide) dL_law_358 (fun z => absurd rfl z) (fun _ => ?_)
    refine aw_aload_n (x := ad 16 0 0) rfl dL_law_361 ?_
    refine aw_iconst (v := 0) (by decide) dL_law_362 ?_
    refine aw_lld rfl dL_law_363 ?_
    refine aw_iload (x := v) rfl dL_law_364 ?_
    refine aw_i2l dL_law_366 ?_
    refine aw_lcmp dL_law_367 ?_
    refine aw_if_eq (tgt := 373) (by decide) dL_law_368 (fun _ => ?_) (fun z => absurd hcmp z)
    refine aw_goto (tgt := 1946) (by decide) dL_law_373 ?_
    exact AW.locs (K o2 n2 m2 c2 R2) (lsub_keep (lsub_keep (lsub_keep (lsub_keep (lsub_keep (lsub_none (lsub_none lsub_nil)))))))
  · simp only [List.mem_cons, Prod.mk.injEq, List.not_mem_nil, or_false] at hE
    rcases hE with ⟨rfl, rfl⟩ | ⟨rfl, rfl⟩ | ⟨rfl, rfl⟩
    · skip
      refine aw_aload_n (x := ad 7 0 0) rfl dL_law_296 ?_
      refine aw_aload_n (x := b) rfl dL_law_297 ?_
      refine aw_iload (x := (nI i)) rfl dL_law_298 ?_
      refine aw_iconst (v := 1) (by decide) dL_law_300 ?_
      refine aw_iaddz (z := nI (i + 1)) (nI_add i 1) dL_law_301 ?_
      refine aw_sld (v := xs (i + 1)) rfl (nI_in (by omega) (by omega)) (by rw [nI_clamp (by omega)]) dL_law_302 ?_
      refine aw_aload_n (x := b) rfl dL_law_303 ?_
      refine aw_iload (x := (nI i)) rfl dL_law_304 ?_
      refine aw_iconst (v := 2) (by decide) dL_law_306 ?_
      refine aw_iaddz (z := nI (i + 2)) (nI_add i 2) dL_law_307 ?_
      refine aw_sld (v := xs (i + 2)) rfl (nI_in (by omega) (by omega)) (by rw [nI_clamp (by omega)]) dL_law_308 ?_
      refine aw_aload_n (x := b) rfl dL_law_309 ?_
      refine aw_iload (x := (nI i)) rfl dL_law_310 ?_
      refine aw_iconst (v := 3) (by decide) dL_law_312 ?_
      refine aw_iaddz (z := nI (i + 3)) (nI_add i 3) dL_law_313 ?_
      refine aw_sld (v := xs (i + 3)) rfl (nI_in (by omega) (by omega)) (by rw [nI_clamp (by omega)]) dL_law_314 ?_
      refine aw_aload_n (x := ad 16 0 0) rfl dL_law_315 ?_
      refine aw_L (As := [.ref (ad 7 0 0), .int (xs (i + 1)), .int (xs (i + 2)), .int (xs (i + 3)), .ref (ad 16 0 0)]) (S := []) (lwx_set_eI h7) fhL_set wq515 wq516 rfl rfl (Nat.le_of_ble_eq_true rfl) (by decide) (by decide) hcc hcs dL_law_316 ?_
      refine aw_istore (L2 := [some (.ref b), some (.ref (ad 7 0 0)), some (.ref (ad 14 0 0)), some (.ref (ad 16 0 0)), some (.int (nI i)), some (.int 1), none]) (Nat.le_of_ble_eq_true rfl) rfl rfl dL_law_319 ?_
      refine aw_aload_n (x := ad 14 0 0) rfl dL_law_321 ?_
      refine aw_aload_n (x := b) rfl dL_law_322 ?_
      refine aw_iload (x := (nI i)) rfl dL_law_323 ?_
      refine aw_iconst (v := 1) (by decide) dL_law_325 ?_
      refine aw_iaddz (z := nI (i + 1)) (nI_add i 1) dL_law_326 ?_
      refine aw_sld (v := xs (i + 1)) rfl (nI_in (by omega) (by omega)) (by rw [nI_clamp (by omega)]) dL_law_327 ?_
      refine aw_aload_n (x := b) rfl dL_law_328 ?_
      refine aw_iload (x := (nI i)) rfl dL_law_329 ?_
      refine aw_iconst (v := 2) (by decide) dL_law_331 ?_
      refine aw_iaddz (z := nI (i + 2)) (nI_add i 2) dL_law_332 ?_
      refine aw_sld (v := xs (i + 2)) rfl (nI_in (by omega) (by omega)) (by rw [nI_clamp (by omega)]) dL_law_333 ?_
      refine aw_aload_n (x := b) rfl dL_law_334 ?_
      refine aw_iload (x := (nI i)) rfl dL_law_335 ?_
      refine aw_iconst (v := 3) (by decide) dL_law_337 ?_
      refine aw_iaddz (z := nI (i + 3)) (nI_add i 3) dL_law_338 ?_
      refine aw_sld (v := xs (i + 3)) rfl (nI_in (by omega) (by omega)) (by rw [nI_clamp (by omega)]) dL_law_339 ?_
      refine aw_0V (As := [.int (xs (i + 1)), .int (xs (i + 2)), .int (xs (i + 3))]) (S := []) (v := some (.int 0)) (o2 := (wd_w o 12 1 1)) h8 (mm_fit_of cbX8_set (Nat.le_of_ble_eq_true rfl) (Nat.le_of_ble_eq_true rfl)) wq957 cvX8_set wv14 rfl rfl rfl (Nat.le_of_ble_eq_true rfl) rfl rfl hcc hcs rfl dL_law_340 ?_
      refine aw_istore (L2 := [some (.ref b), some (.ref (ad 7 0 0)), some (.ref (ad 14 0 0)), some (.ref (ad 16 0 0)), some (.int (nI i)), some (.int 1), some (.int 0)]) (Nat.le_of_ble_eq_true rfl) rfl rfl dL_law_343 ?_
      refine aw_aload_n (x := ad 14 0 0) rfl dL_law_345 ?_
      refine aw_0V (As := []) (S := []) (v := some (.int 1)) (o2 := (wd_w o 12 1 1)) (thr_of (by rw [wd_get, if_pos ⟨rfl, rfl⟩])) (mm_fit_of cbX8_thrown (Nat.le_of_ble_eq_true rfl) (Nat.le_of_ble_eq_true rfl)) wq914 cvX8_thrown wv14 rfl rfl rfl (Nat.le_of_ble_eq_true rfl) rfl rfl hcc hcs rfl dL_law_346 ?_
      refine aw_iload (x := 1) rfl dL_law_349 ?_
      refine aw_icmp_eq (tgt := 356) (by decide) dL_law_351 (fun _ => ?_) (fun z => absurd rfl z)
      refine aw_iload (x := 1) rfl dL_law_356 ?_
      refine aw_if_ne (tgt := 373) (by decide) dL_law_358 (fun _ => ?_) (fun z => absurd z (by decide))
      refine aw_goto (tgt := 1946) (by decide) dL_law_373 ?_
      exact AW.locs (K _ n m c (R.w 1)) (lsub_keep (lsub_keep (lsub_keep (lsub_keep (lsub_keep (lsub_none (lsub_none lsub_nil)))))))
    · skip
      refine aw_aload_n (x := ad 7 0 0) rfl dL_law_296 ?_
      refine aw_aload_n (x := b) rfl dL_law_297 ?_
      refine aw_iload (x := (nI i)) rfl dL_law_298 ?_
      refine aw_iconst (v := 1) (by decide) dL_law_300 ?_
      refine aw_iaddz (z := nI (i + 1)) (nI_add i 1) dL_law_301 ?_
      refine aw_sld (v := xs (i + 1)) rfl (nI_in (by omega) (by omega)) (by rw [nI_clamp (by omega)]) dL_law_302 ?_
      refine aw_aload_n (x := b) rfl dL_law_303 ?_
      refine aw_iload (x := (nI i)) rfl dL_law_304 ?_
      refine aw_iconst (v := 2) (by decide) dL_law_306 ?_
      refine aw_iaddz (z := nI (i + 2)) (nI_add i 2) dL_law_307 ?_
      refine aw_sld (v := xs (i + 2)) rfl (nI_in (by omega) (by omega)) (by rw [nI_clamp (by omega)]) dL_law_308 ?_
      refine aw_aload_n (x := b) rfl dL_law_309 ?_
      refine aw_iload (x := (nI i)) rfl dL_law_310 ?_
      refine aw_iconst (v := 3) (by decide) dL_law_312 ?_
      refine aw_iaddz (z := nI (i + 3)) (nI_add i 3) dL_law_313 ?_
      refine aw_sld (v := xs (i + 3)) rfl (nI_in (by omega) (by omega)) (by rw [nI_clamp (by omega)]) dL_law_314 ?_
      refine aw_aload_n (x := ad 16 0 0) rfl dL_law_315 ?_
      refine aw_L (As := [.ref (ad 7 0 0), .int (xs (i + 1)), .int (xs (i + 2)), .int (xs (i + 3)), .ref (ad 16 0 0)]) (S := []) (lwx_set_eA h7) fhL_set wq515 wq516 rfl rfl (Nat.le_of_ble_eq_true rfl) (by decide) (by decide) hcc hcs dL_law_316 ?_
      refine aw_istore (L2 := [some (.ref b), some (.ref (ad 7 0 0)), some (.ref (ad 14 0 0)), some (.ref (ad 16 0 0)), some (.int (nI i)), some (.int 2), none]) (Nat.le_of_ble_eq_true rfl) rfl rfl dL_law_319 ?_
      refine aw_aload_n (x := ad 14 0 0) rfl dL_law_321 ?_
      refine aw_aload_n (x := b) rfl dL_law_322 ?_
      refine aw_iload (x := (nI i)) rfl dL_law_323 ?_
      refine aw_iconst (v := 1) (by decide) dL_law_325 ?_
      refine aw_iaddz (z := nI (i + 1)) (nI_add i 1) dL_law_326 ?_
      refine aw_sld (v := xs (i + 1)) rfl (nI_in (by omega) (by omega)) (by rw [nI_clamp (by omega)]) dL_law_327 ?_
      refine aw_aload_n (x := b) rfl dL_law_328 ?_
      refine aw_iload (x := (nI i)) rfl dL_law_329 ?_
      refine aw_iconst (v := 2) (by decide) dL_law_331 ?_
      refine aw_iaddz (z := nI (i + 2)) (nI_add i 2) dL_law_332 ?_
      refine aw_sld (v := xs (i + 2)) rfl (nI_in (by omega) (by omega)) (by rw [nI_clamp (by omega)]) dL_law_333 ?_
      refine aw_aload_n (x := b) rfl dL_law_334 ?_
      refine aw_iload (x := (nI i)) rfl dL_law_335 ?_
      refine aw_iconst (v := 3) (by decide) dL_law_337 ?_
      refine aw_iaddz (z := nI (i + 3)) (nI_add i 3) dL_law_338 ?_
      refine aw_sld (v := xs (i + 3)) rfl (nI_in (by omega) (by omega)) (by rw [nI_clamp (by omega)]) dL_law_339 ?_
      refine aw_0V (As := [.int (xs (i + 1)), .int (xs (i + 2)), .int (xs (i + 3))]) (S := []) (v := some (.int 0)) (o2 := (wd_w o 12 1 2)) h8 (mm_fit_of cbX8_set (Nat.le_of_ble_eq_true rfl) (Nat.le_of_ble_eq_true rfl)) wq957 cvX8_set wv14 rfl rfl rfl (Nat.le_of_ble_eq_true rfl) rfl rfl hcc hcs rfl dL_law_340 ?_
      refine aw_istore (L2 := [some (.ref b), some (.ref (ad 7 0 0)), some (.ref (ad 14 0 0)), some (.ref (ad 16 0 0)), some (.int (nI i)), some (.int 2), some (.int 0)]) (Nat.le_of_ble_eq_true rfl) rfl rfl dL_law_343 ?_
      refine aw_aload_n (x := ad 14 0 0) rfl dL_law_345 ?_
      refine aw_0V (As := []) (S := []) (v := some (.int 2)) (o2 := (wd_w o 12 1 2)) (thr_of (by rw [wd_get, if_pos ⟨rfl, rfl⟩])) (mm_fit_of cbX8_thrown (Nat.le_of_ble_eq_true rfl) (Nat.le_of_ble_eq_true rfl)) wq914 cvX8_thrown wv14 rfl rfl rfl (Nat.le_of_ble_eq_true rfl) rfl rfl hcc hcs rfl dL_law_346 ?_
      refine aw_iload (x := 2) rfl dL_law_349 ?_
      refine aw_icmp_eq (tgt := 356) (by decide) dL_law_351 (fun _ => ?_) (fun z => absurd rfl z)
      refine aw_iload (x := 2) rfl dL_law_356 ?_
      refine aw_if_ne (tgt := 373) (by decide) dL_law_358 (fun _ => ?_) (fun z => absurd z (by decide))
      refine aw_goto (tgt := 1946) (by decide) dL_law_373 ?_
      exact AW.locs (K _ n m c (R.w 2)) (lsub_keep (lsub_keep (lsub_keep (lsub_keep (lsub_keep (lsub_none (lsub_none lsub_nil)))))))
    · skip
      refine aw_aload_n (x := ad 7 0 0) rfl dL_law_296 ?_
      refine aw_aload_n (x := b) rfl dL_law_297 ?_
      refine aw_iload (x := (nI i)) rfl dL_law_298 ?_
      refine aw_iconst (v := 1) (by decide) dL_law_300 ?_
      refine aw_iaddz (z := nI (i + 1)) (nI_add i 1) dL_law_301 ?_
      refine aw_sld (v := xs (i + 1)) rfl (nI_in (by omega) (by omega)) (by rw [nI_clamp (by omega)]) dL_law_302 ?_
      refine aw_aload_n (x := b) rfl dL_law_303 ?_
      refine aw_iload (x := (nI i)) rfl dL_law_304 ?_
      refine aw_iconst (v := 2) (by decide) dL_law_306 ?_
      refine aw_iaddz (z := nI (i + 2)) (nI_add i 2) dL_law_307 ?_
      refine aw_sld (v := xs (i + 2)) rfl (nI_in (by omega) (by omega)) (by rw [nI_clamp (by omega)]) dL_law_308 ?_
      refine aw_aload_n (x := b) rfl dL_law_309 ?_
      refine aw_iload (x := (nI i)) rfl dL_law_310 ?_
      refine aw_iconst (v := 3) (by decide) dL_law_312 ?_
      refine aw_iaddz (z := nI (i + 3)) (nI_add i 3) dL_law_313 ?_
      refine aw_sld (v := xs (i + 3)) rfl (nI_in (by omega) (by omega)) (by rw [nI_clamp (by omega)]) dL_law_314 ?_
      refine aw_aload_n (x := ad 16 0 0) rfl dL_law_315 ?_
      refine aw_L (As := [.ref (ad 7 0 0), .int (xs (i + 1)), .int (xs (i + 2)), .int (xs (i + 3)), .ref (ad 16 0 0)]) (S := []) (lwx_set_eS h7) fhL_set wq515 wq516 rfl rfl (Nat.le_of_ble_eq_true rfl) (by decide) (by decide) hcc hcs dL_law_316 ?_
      refine aw_istore (L2 := [some (.ref b), some (.ref (ad 7 0 0)), some (.ref (ad 14 0 0)), some (.ref (ad 16 0 0)), some (.int (nI i)), some (.int 3), none]) (Nat.le_of_ble_eq_true rfl) rfl rfl dL_law_319 ?_
      refine aw_aload_n (x := ad 14 0 0) rfl dL_law_321 ?_
      refine aw_aload_n (x := b) rfl dL_law_322 ?_
      refine aw_iload (x := (nI i)) rfl dL_law_323 ?_
      refine aw_iconst (v := 1) (by decide) dL_law_325 ?_
      refine aw_iaddz (z := nI (i + 1)) (nI_add i 1) dL_law_326 ?_
      refine aw_sld (v := xs (i + 1)) rfl (nI_in (by omega) (by omega)) (by rw [nI_clamp (by omega)]) dL_law_327 ?_
      refine aw_aload_n (x := b) rfl dL_law_328 ?_
      refine aw_iload (x := (nI i)) rfl dL_law_329 ?_
      refine aw_iconst (v := 2) (by decide) dL_law_331 ?_
      refine aw_iaddz (z := nI (i + 2)) (nI_add i 2) dL_law_332 ?_
      refine aw_sld (v := xs (i + 2)) rfl (nI_in (by omega) (by omega)) (by rw [nI_clamp (by omega)]) dL_law_333 ?_
      refine aw_aload_n (x := b) rfl dL_law_334 ?_
      refine aw_iload (x := (nI i)) rfl dL_law_335 ?_
      refine aw_iconst (v := 3) (by decide) dL_law_337 ?_
      refine aw_iaddz (z := nI (i + 3)) (nI_add i 3) dL_law_338 ?_
      refine aw_sld (v := xs (i + 3)) rfl (nI_in (by omega) (by omega)) (by rw [nI_clamp (by omega)]) dL_law_339 ?_
      refine aw_0V (As := [.int (xs (i + 1)), .int (xs (i + 2)), .int (xs (i + 3))]) (S := []) (v := some (.int 0)) (o2 := (wd_w o 12 1 3)) h8 (mm_fit_of cbX8_set (Nat.le_of_ble_eq_true rfl) (Nat.le_of_ble_eq_true rfl)) wq957 cvX8_set wv14 rfl rfl rfl (Nat.le_of_ble_eq_true rfl) rfl rfl hcc hcs rfl dL_law_340 ?_
      refine aw_istore (L2 := [some (.ref b), some (.ref (ad 7 0 0)), some (.ref (ad 14 0 0)), some (.ref (ad 16 0 0)), some (.int (nI i)), some (.int 3), some (.int 0)]) (Nat.le_of_ble_eq_true rfl) rfl rfl dL_law_343 ?_
      refine aw_aload_n (x := ad 14 0 0) rfl dL_law_345 ?_
      refine aw_0V (As := []) (S := []) (v := some (.int 3)) (o2 := (wd_w o 12 1 3)) (thr_of (by rw [wd_get, if_pos ⟨rfl, rfl⟩])) (mm_fit_of cbX8_thrown (Nat.le_of_ble_eq_true rfl) (Nat.le_of_ble_eq_true rfl)) wq914 cvX8_thrown wv14 rfl rfl rfl (Nat.le_of_ble_eq_true rfl) rfl rfl hcc hcs rfl dL_law_346 ?_
      refine aw_iload (x := 3) rfl dL_law_349 ?_
      refine aw_icmp_eq (tgt := 356) (by decide) dL_law_351 (fun _ => ?_) (fun z => absurd rfl z)
      refine aw_iload (x := 3) rfl dL_law_356 ?_
      refine aw_if_ne (tgt := 373) (by decide) dL_law_358 (fun _ => ?_) (fun z => absurd z (by decide))
      refine aw_goto (tgt := 1946) (by decide) dL_law_373 ?_
      exact AW.locs (K _ n m c (R.w 3)) (lsub_keep (lsub_keep (lsub_keep (lsub_keep (lsub_keep (lsub_none (lsub_none lsub_nil)))))))
theorem bk_3 {ad : Nat → Nat → Nat → Nat} {o : wd_S} {n m c b L i : Nat} {xs : Nat → Int32} {cc cs : Nat} {F : (Option Value ⊕ String) → wd_S → Prop} (hL : L ≤ 2048) (hi : i + 4 ≤ L) (R : Rel o n m c) (hcc : cc + 2 ≤ (mm_mo (ML_law b L xs)).cells) (hcs : cs + 12 ≤ (mm_mo (ML_law b L xs)).slots) (K : ∀ o2 n m c, Rel o2 n m c → AW ad (ML_law b L xs) 1946 [some (.ref b), some (.ref (ad 7 0 0)), some (.ref (ad 14 0 0)), some (.ref (ad 16 0 0)), some (.int (nI i)), none, none] [] o2 (cc + 2) (cs + 12) F) : AW ad (ML_law b L xs) 376 [some (.ref b), some (.ref (ad 7 0 0)), some (.ref (ad 14 0 0)), some (.ref (ad 16 0 0)), some (.int (nI i)), none, none] [] o cc cs F := by
  refine aw_aload_n (x := ad 7 0 0) rfl dL_law_376 ?_
  refine aw_0V (As := []) (S := []) (v := some (.int (nI n))) (o2 := o) (ct_loops R.vs) (mm_fit_of cbX7_loops (Nat.le_of_ble_eq_true rfl) (Nat.le_of_ble_eq_true rfl)) wq242 cvX7_loops wv7 rfl rfl rfl (Nat.le_of_ble_eq_true rfl) rfl rfl (Nat.le_trans (Nat.le_add_right cc 2) hcc) (Nat.le_trans (Nat.le_add_right cs 12) hcs) rfl dL_law_377 ?_
  refine aw_aload_n (x := ad 14 0 0) rfl dL_law_380 ?_
  refine aw_0V (As := []) (S := [.int (nI n)]) (v := some (.int (nI n))) (o2 := (wd_w o 12 1 0)) (rt_loops R.mv) (mm_fit_of cbX8_loops (Nat.le_of_ble_eq_true rfl) (Nat.le_of_ble_eq_true rfl)) wq973 cvX8_loops wv14 rfl rfl rfl (Nat.le_of_ble_eq_true rfl) rfl rfl (Nat.le_trans (Nat.le_add_right cc 2) hcc) (Nat.le_trans (Nat.le_add_right cs 12) hcs) rfl dL_law_381 ?_
  refine aw_icmp_eq (tgt := 1946) (by decide) dL_law_384 (fun _ => ?_) (fun z => absurd rfl z)
  exact AW.wide (AW.locs (K _ n m c (R.w 0)) (lsub_keep (lsub_keep (lsub_keep (lsub_keep (lsub_keep (lsub_keep (lsub_keep lsub_nil)))))))) (Nat.le_add_right cc 2) (Nat.le_add_right cs 12)
theorem bk_4 {ad : Nat → Nat → Nat → Nat} {o : wd_S} {n m c b L i : Nat} {xs : Nat → Int32} {cc cs : Nat} {F : (Option Value ⊕ String) → wd_S → Prop} (hL : L ≤ 2048) (hi : i + 4 ≤ L) (R : Rel o n m c) (hcc : cc + 2 ≤ (mm_mo (ML_law b L xs)).cells) (hcs : cs + 12 ≤ (mm_mo (ML_law b L xs)).slots) (K : ∀ o2 n m c, Rel o2 n m c → AW ad (ML_law b L xs) 1946 [some (.ref b), some (.ref (ad 7 0 0)), some (.ref (ad 14 0 0)), some (.ref (ad 16 0 0)), some (.int (nI i)), none, none] [] o2 (cc + 2) (cs + 12) F) : AW ad (ML_law b L xs) 389 [some (.ref b), some (.ref (ad 7 0 0)), some (.ref (ad 14 0 0)), some (.ref (ad 16 0 0)), some (.int (nI i)), none, none] [] o cc cs F := by
  refine aw_aload_n (x := ad 7 0 0) rfl dL_law_389 ?_
  refine aw_0V (As := []) (S := []) (v := some (.int (nI m))) (o2 := o) (ct_subscribers R.vs) (mm_fit_of cbX7_subscribers (Nat.le_of_ble_eq_true rfl) (Nat.le_of_ble_eq_true rfl)) wq246 cvX7_subscribers wv7 rfl rfl rfl (Nat.le_of_ble_eq_true rfl) rfl rfl (Nat.le_trans (Nat.le_add_right cc 2) hcc) (Nat.le_trans (Nat.le_add_right cs 12) hcs) rfl dL_law_390 ?_
  refine aw_aload_n (x := ad 14 0 0) rfl dL_law_393 ?_
  refine aw_0V (As := []) (S := [.int (nI m)]) (v := some (.int (nI m))) (o2 := (wd_w o 12 1 0)) (rt_subscribers R.mv) (mm_fit_of cbX8_subscribers (Nat.le_of_ble_eq_true rfl) (Nat.le_of_ble_eq_true rfl)) wq977 cvX8_subscribers wv14 rfl rfl rfl (Nat.le_of_ble_eq_true rfl) rfl rfl (Nat.le_trans (Nat.le_add_right cc 2) hcc) (Nat.le_trans (Nat.le_add_right cs 12) hcs) rfl dL_law_394 ?_
  refine aw_icmp_eq (tgt := 1946) (by decide) dL_law_397 (fun _ => ?_) (fun z => absurd rfl z)
  exact AW.wide (AW.locs (K _ n m c (R.w 0)) (lsub_keep (lsub_keep (lsub_keep (lsub_keep (lsub_keep (lsub_keep (lsub_keep lsub_nil)))))))) (Nat.le_add_right cc 2) (Nat.le_add_right cs 12)
theorem bk_5 {ad : Nat → Nat → Nat → Nat} {o : wd_S} {n m c b L i : Nat} {xs : Nat → Int32} {cc cs : Nat} {F : (Option Value ⊕ String) → wd_S → Prop} (hL : L ≤ 2048) (hi : i + 4 ≤ L) (R : Rel o n m c) (hcc : cc + 2 ≤ (mm_mo (ML_law b L xs)).cells) (hcs : cs + 12 ≤ (mm_mo (ML_law b L xs)).slots) (K : ∀ o2 n m c, Rel o2 n m c → AW ad (ML_law b L xs) 1946 [some (.ref b), some (.ref (ad 7 0 0)), some (.ref (ad 14 0 0)), some (.ref (ad 16 0 0)), some (.int (nI i)), none, none] [] o2 (cc + 2) (cs + 12) F) : AW ad (ML_law b L xs) 402 [some (.ref b), some (.ref (ad 7 0 0)), some (.ref (ad 14 0 0)), some (.ref (ad 16 0 0)), some (.int (nI i)), none, none] [] o cc cs F := by
  rcases sp_sub (ad := ad) R (x := xs (i + 1)) (w := xs (i + 2)) with ⟨v, o1, o2, h7, h8, hP, h12, hj, n2, m2, c2, R2⟩ | ⟨E, k, hE, h7, h8⟩
  · have hcmp : lg_cmp (o2.2.2 1) v.toInt64 = 0 := by rw [hj]; exact cmp_self _
    refine aw_aload_n (x := ad 7 0 0) rfl dL_law_402 ?_
    refine aw_aload_n (x := b) rfl dL_law_403 ?_
    refine aw_iload (x := (nI i)) rfl dL_law_404 ?_
    refine aw_iconst (v := 1) (by decide) dL_law_406 ?_
    refine aw_iaddz (z := nI (i + 1)) (nI_add i 1) dL_law_407 ?_
    refine aw_sld (v := xs (i + 1)) rfl (nI_in (by omega) (by omega)) (by rw [nI_clamp (by omega)]) dL_law_408 ?_
    refine aw_aload_n (x := b) rfl dL_law_409 ?_
    refine aw_iload (x := (nI i)) rfl dL_law_410 ?_
    refine aw_iconst (v := 2) (by decide) dL_law_412 ?_
    refine aw_iaddz (z := nI (i + 2)) (nI_add i 2) dL_law_413 ?_
    refine aw_sld (v := xs (i + 2)) rfl (nI_in (by omega) (by omega)) (by rw [nI_clamp (by omega)]) dL_law_414 ?_
    refine aw_aload_n (x := ad 16 0 0) rfl dL_law_415 ?_
    refine aw_L (As := [.ref (ad 7 0 0), .int (xs (i + 1)), .int (xs (i + 2)), .ref (ad 16 0 0)]) (S := []) (lwv_subscriber h7) fhL_subscriber wq537 wq538 rfl rfl (Nat.le_of_ble_eq_true rfl) (by decide) (by decide) hcc hcs dL_law_416 ?_
    refine aw_istore (L2 := [some (.ref b), some (.ref (ad 7 0 0)), some (.ref (ad 14 0 0)), some (.ref (ad 16 0 0)), some (.int (nI i)), some (.int 0), none]) (Nat.le_of_ble_eq_true rfl) rfl rfl dL_law_419 ?_
    refine aw_aload_n (x := ad 14 0 0) rfl dL_law_421 ?_
    refine aw_aload_n (x := b) rfl dL_law_422 ?_
    refine aw_iload (x := (nI i)) rfl dL_law_423 ?_
    refine aw_iconst (v := 1) (by decide) dL_law_425 ?_
    refine aw_iaddz (z := nI (i + 1)) (nI_add i 1) dL_law_426 ?_
    refine aw_sld (v := xs (i + 1)) rfl (nI_in (by omega) (by omega)) (by rw [nI_clamp (by omega)]) dL_law_427 ?_
    refine aw_aload_n (x := b) rfl dL_law_428 ?_
    refine aw_iload (x := (nI i)) rfl dL_law_429 ?_
    refine aw_iconst (v := 2) (by decide) dL_law_431 ?_
    refine aw_iaddz (z := nI (i + 2)) (nI_add i 2) dL_law_432 ?_
    refine aw_sld (v := xs (i + 2)) rfl (nI_in (by omega) (by omega)) (by rw [nI_clamp (by omega)]) dL_law_433 ?_
    refine aw_0V (As := [.int (xs (i + 1)), .int (xs (i + 2))]) (S := []) (v := some (.int v)) (o2 := o2) h8 (mm_fit_of cbX8_subscriber (Nat.le_of_ble_eq_true rfl) (Nat.le_of_ble_eq_true rfl)) wq981 cvX8_subscriber wv14 rfl rfl rfl (Nat.le_of_ble_eq_true rfl) rfl rfl hcc hcs rfl dL_law_434 ?_
    refine aw_istore (L2 := [some (.ref b), some (.ref (ad 7 0 0)), some (.ref (ad 14 0 0)), some (.ref (ad 16 0 0)), some (.int (nI i)), some (.int 0), some (.int v)]) (Nat.le_of_ble_eq_true rfl) rfl rfl dL_law_437 ?_
    refine aw_aload_n (x := ad 14 0 0) rfl dL_law_439 ?_
    refine aw_0V (As := []) (S := []) (v := some (.int 0)) (o2 := o2) (thr_of h12) (mm_fit_of cbX8_thrown (Nat.le_of_ble_eq_true rfl) (Nat.le_of_ble_eq_true rfl)) wq914 cvX8_thrown wv14 rfl rfl rfl (Nat.le_of_ble_eq_true rfl) rfl rfl hcc hcs rfl dL_law_440 ?_
    refine aw_iload (x := 0) rfl dL_law_443 ?_
    refine aw_icmp_eq (tgt := 450) (by decide) dL_law_445 (fun _ => ?_) (fun z => absurd rfl z)
    refine aw_iload (x := 0) rfl dL_law_450 ?_
    refine aw_if_ne (tgt := 467) (by decide) dL_law_452 (fun z => absurd rfl z) (fun _ => ?_)
    refine aw_aload_n (x := ad 16 0 0) rfl dL_law_455 ?_
    refine aw_iconst (v := 0) (by decide) dL_law_456 ?_
    refine aw_lld rfl dL_law_457 ?_
    refine aw_iload (x := v) rfl dL_law_458 ?_
    refine aw_i2l dL_law_460 ?_
    refine aw_lcmp dL_law_461 ?_
    refine aw_if_eq (tgt := 467) (by decide) dL_law_462 (fun _ => ?_) (fun z => absurd hcmp z)
    refine aw_goto (tgt := 1946) (by decide) dL_law_467 ?_
    exact AW.locs (K o2 n2 m2 c2 R2) (lsub_keep (lsub_keep (lsub_keep (lsub_keep (lsub_keep (lsub_none (lsub_none lsub_nil)))))))
  · simp only [List.mem_cons, Prod.mk.injEq, List.not_mem_nil, or_false] at hE
    rcases hE with ⟨rfl, rfl⟩ | ⟨rfl, rfl⟩
    · skip
      refine aw_aload_n (x := ad 7 0 0) rfl dL_law_402 ?_
      refine aw_aload_n (x := b) rfl dL_law_403 ?_
      refine aw_iload (x := (nI i)) rfl dL_law_404 ?_
      refine aw_iconst (v := 1) (by decide) dL_law_406 ?_
      refine aw_iaddz (z := nI (i + 1)) (nI_add i 1) dL_law_407 ?_
      refine aw_sld (v := xs (i + 1)) rfl (nI_in (by omega) (by omega)) (by rw [nI_clamp (by omega)]) dL_law_408 ?_
      refine aw_aload_n (x := b) rfl dL_law_409 ?_
      refine aw_iload (x := (nI i)) rfl dL_law_410 ?_
      refine aw_iconst (v := 2) (by decide) dL_law_412 ?_
      refine aw_iaddz (z := nI (i + 2)) (nI_add i 2) dL_law_413 ?_
      refine aw_sld (v := xs (i + 2)) rfl (nI_in (by omega) (by omega)) (by rw [nI_clamp (by omega)]) dL_law_414 ?_
      refine aw_aload_n (x := ad 16 0 0) rfl dL_law_415 ?_
      refine aw_L (As := [.ref (ad 7 0 0), .int (xs (i + 1)), .int (xs (i + 2)), .ref (ad 16 0 0)]) (S := []) (lwx_subscriber_eI h7) fhL_subscriber wq537 wq538 rfl rfl (Nat.le_of_ble_eq_true rfl) (by decide) (by decide) hcc hcs dL_law_416 ?_
      refine aw_istore (L2 := [some (.ref b), some (.ref (ad 7 0 0)), some (.ref (ad 14 0 0)), some (.ref (ad 16 0 0)), some (.int (nI i)), some (.int 1), none]) (Nat.le_of_ble_eq_true rfl) rfl rfl dL_law_419 ?_
      refine aw_aload_n (x := ad 14 0 0) rfl dL_law_421 ?_
      refine aw_aload_n (x := b) rfl dL_law_422 ?_
      refine aw_iload (x := (nI i)) rfl dL_law_423 ?_
      refine aw_iconst (v := 1) (by decide) dL_law_425 ?_
      refine aw_iaddz (z := nI (i + 1)) (nI_add i 1) dL_law_426 ?_
      refine aw_sld (v := xs (i + 1)) rfl (nI_in (by omega) (by omega)) (by rw [nI_clamp (by omega)]) dL_law_427 ?_
      refine aw_aload_n (x := b) rfl dL_law_428 ?_
      refine aw_iload (x := (nI i)) rfl dL_law_429 ?_
      refine aw_iconst (v := 2) (by decide) dL_law_431 ?_
      refine aw_iaddz (z := nI (i + 2)) (nI_add i 2) dL_law_432 ?_
      refine aw_sld (v := xs (i + 2)) rfl (nI_in (by omega) (by omega)) (by rw [nI_clamp (by omega)]) dL_law_433 ?_
      refine aw_0V (As := [.int (xs (i + 1)), .int (xs (i + 2))]) (S := []) (v := some (.int 0)) (o2 := (wd_w o 12 1 1)) h8 (mm_fit_of cbX8_subscriber (Nat.le_of_ble_eq_true rfl) (Nat.le_of_ble_eq_true rfl)) wq981 cvX8_subscriber wv14 rfl rfl rfl (Nat.le_of_ble_eq_true rfl) rfl rfl hcc hcs rfl dL_law_434 ?_
      refine aw_istore (L2 := [some (.ref b), some (.ref (ad 7 0 0)), some (.ref (ad 14 0 0)), some (.ref (ad 16 0 0)), some (.int (nI i)), some (.int 1), some (.int 0)]) (Nat.le_of_ble_eq_true rfl) rfl rfl dL_law_437 ?_
      refine aw_aload_n (x := ad 14 0 0) rfl dL_law_439 ?_
      refine aw_0V (As := []) (S := []) (v := some (.int 1)) (o2 := (wd_w o 12 1 1)) (thr_of (by rw [wd_get, if_pos ⟨rfl, rfl⟩])) (mm_fit_of cbX8_thrown (Nat.le_of_ble_eq_true rfl) (Nat.le_of_ble_eq_true rfl)) wq914 cvX8_thrown wv14 rfl rfl rfl (Nat.le_of_ble_eq_true rfl) rfl rfl hcc hcs rfl dL_law_440 ?_
      refine aw_iload (x := 1) rfl dL_law_443 ?_
      refine aw_icmp_eq (tgt := 450) (by decide) dL_law_445 (fun _ => ?_) (fun z => absurd rfl z)
      refine aw_iload (x := 1) rfl dL_law_450 ?_
      refine aw_if_ne (tgt := 467) (by decide) dL_law_452 (fun _ => ?_) (fun z => absurd z (by decide))
      refine aw_goto (tgt := 1946) (by decide) dL_law_467 ?_
      exact AW.locs (K _ n m c (R.w 1)) (lsub_keep (lsub_keep (lsub_keep (lsub_keep (lsub_keep (lsub_none (lsub_none lsub_nil)))))))
    · skip
      refine aw_aload_n (x := ad 7 0 0) rfl dL_law_402 ?_
      refine aw_aload_n (x := b) rfl dL_law_403 ?_
      refine aw_iload (x := (nI i)) rfl dL_law_404 ?_
      refine aw_iconst (v := 1) (by decide) dL_law_406 ?_
      refine aw_iaddz (z := nI (i + 1)) (nI_add i 1) dL_law_407 ?_
      refine aw_sld (v := xs (i + 1)) rfl (nI_in (by omega) (by omega)) (by rw [nI_clamp (by omega)]) dL_law_408 ?_
      refine aw_aload_n (x := b) rfl dL_law_409 ?_
      refine aw_iload (x := (nI i)) rfl dL_law_410 ?_
      refine aw_iconst (v := 2) (by decide) dL_law_412 ?_
      refine aw_iaddz (z := nI (i + 2)) (nI_add i 2) dL_law_413 ?_
      refine aw_sld (v := xs (i + 2)) rfl (nI_in (by omega) (by omega)) (by rw [nI_clamp (by omega)]) dL_law_414 ?_
      refine aw_aload_n (x := ad 16 0 0) rfl dL_law_415 ?_
      refine aw_L (As := [.ref (ad 7 0 0), .int (xs (i + 1)), .int (xs (i + 2)), .ref (ad 16 0 0)]) (S := []) (lwx_subscriber_eA h7) fhL_subscriber wq537 wq538 rfl rfl (Nat.le_of_ble_eq_true rfl) (by decide) (by decide) hcc hcs dL_law_416 ?_
      refine aw_istore (L2 := [some (.ref b), some (.ref (ad 7 0 0)), some (.ref (ad 14 0 0)), some (.ref (ad 16 0 0)), some (.int (nI i)), some (.int 2), none]) (Nat.le_of_ble_eq_true rfl) rfl rfl dL_law_419 ?_
      refine aw_aload_n (x := ad 14 0 0) rfl dL_law_421 ?_
      refine aw_aload_n (x := b) rfl dL_law_422 ?_
      refine aw_iload (x := (nI i)) rfl dL_law_423 ?_
      refine aw_iconst (v := 1) (by decide) dL_law_425 ?_
      refine aw_iaddz (z := nI (i + 1)) (nI_add i 1) dL_law_426 ?_
      refine aw_sld (v := xs (i + 1)) rfl (nI_in (by omega) (by omega)) (by rw [nI_clamp (by omega)]) dL_law_427 ?_
      refine aw_aload_n (x := b) rfl dL_law_428 ?_
      refine aw_iload (x := (nI i)) rfl dL_law_429 ?_
      refine aw_iconst (v := 2) (by decide) dL_law_431 ?_
      refine aw_iaddz (z := nI (i + 2)) (nI_add i 2) dL_law_432 ?_
      refine aw_sld (v := xs (i + 2)) rfl (nI_in (by omega) (by omega)) (by rw [nI_clamp (by omega)]) dL_law_433 ?_
      refine aw_0V (As := [.int (xs (i + 1)), .int (xs (i + 2))]) (S := []) (v := some (.int 0)) (o2 := (wd_w o 12 1 2)) h8 (mm_fit_of cbX8_subscriber (Nat.le_of_ble_eq_true rfl) (Nat.le_of_ble_eq_true rfl)) wq981 cvX8_subscriber wv14 rfl rfl rfl (Nat.le_of_ble_eq_true rfl) rfl rfl hcc hcs rfl dL_law_434 ?_
      refine aw_istore (L2 := [some (.ref b), some (.ref (ad 7 0 0)), some (.ref (ad 14 0 0)), some (.ref (ad 16 0 0)), some (.int (nI i)), some (.int 2), some (.int 0)]) (Nat.le_of_ble_eq_true rfl) rfl rfl dL_law_437 ?_
      refine aw_aload_n (x := ad 14 0 0) rfl dL_law_439 ?_
      refine aw_0V (As := []) (S := []) (v := some (.int 2)) (o2 := (wd_w o 12 1 2)) (thr_of (by rw [wd_get, if_pos ⟨rfl, rfl⟩])) (mm_fit_of cbX8_thrown (Nat.le_of_ble_eq_true rfl) (Nat.le_of_ble_eq_true rfl)) wq914 cvX8_thrown wv14 rfl rfl rfl (Nat.le_of_ble_eq_true rfl) rfl rfl hcc hcs rfl dL_law_440 ?_
      refine aw_iload (x := 2) rfl dL_law_443 ?_
      refine aw_icmp_eq (tgt := 450) (by decide) dL_law_445 (fun _ => ?_) (fun z => absurd rfl z)
      refine aw_iload (x := 2) rfl dL_law_450 ?_
      refine aw_if_ne (tgt := 467) (by decide) dL_law_452 (fun _ => ?_) (fun z => absurd z (by decide))
      refine aw_goto (tgt := 1946) (by decide) dL_law_467 ?_
      exact AW.locs (K _ n m c (R.w 2)) (lsub_keep (lsub_keep (lsub_keep (lsub_keep (lsub_keep (lsub_none (lsub_none lsub_nil)))))))
theorem bk_6 {ad : Nat → Nat → Nat → Nat} {o : wd_S} {n m c b L i : Nat} {xs : Nat → Int32} {cc cs : Nat} {F : (Option Value ⊕ String) → wd_S → Prop} (hL : L ≤ 2048) (hi : i + 4 ≤ L) (R : Rel o n m c) (hcc : cc + 2 ≤ (mm_mo (ML_law b L xs)).cells) (hcs : cs + 12 ≤ (mm_mo (ML_law b L xs)).slots) (K : ∀ o2 n m c, Rel o2 n m c → AW ad (ML_law b L xs) 1946 [some (.ref b), some (.ref (ad 7 0 0)), some (.ref (ad 14 0 0)), some (.ref (ad 16 0 0)), some (.int (nI i)), none, none] [] o2 (cc + 2) (cs + 12) F) : AW ad (ML_law b L xs) 470 [some (.ref b), some (.ref (ad 7 0 0)), some (.ref (ad 14 0 0)), some (.ref (ad 16 0 0)), some (.int (nI i)), none, none] [] o cc cs F := by
  rcases sp_loop (ad := ad) R (x := xs (i + 1)) (w := xs (i + 2)) with ⟨v, o1, o2, h7, h8, hP, h12, hj, n2, m2, c2, R2⟩ | ⟨E, k, hE, h7, h8⟩
  · have hcmp : lg_cmp (o2.2.2 1) v.toInt64 = 0 := by rw [hj]; exact cmp_self _
    refine aw_aload_n (x := ad 7 0 0) rfl dL_law_470 ?_
    refine aw_aload_n (x := b) rfl dL_law_471 ?_
    refine aw_iload (x := (nI i)) rfl dL_law_472 ?_
    refine aw_iconst (v := 1) (by decide) dL_law_474 ?_
    refine aw_iaddz (z := nI (i + 1)) (nI_add i 1) dL_law_475 ?_
    refine aw_sld (v := xs (i + 1)) rfl (nI_in (by omega) (by omega)) (by rw [nI_clamp (by omega)]) dL_law_476 ?_
    refine aw_aload_n (x := b) rfl dL_law_477 ?_
    refine aw_iload (x := (nI i)) rfl dL_law_478 ?_
    refine aw_iconst (v := 2) (by decide) dL_law_480 ?_
    refine aw_iaddz (z := nI (i + 2)) (nI_add i 2) dL_law_481 ?_
    refine aw_sld (v := xs (i + 2)) rfl (nI_in (by omega) (by omega)) (by rw [nI_clamp (by omega)]) dL_law_482 ?_
    refine aw_aload_n (x := ad 16 0 0) rfl dL_law_483 ?_
    refine aw_L (As := [.ref (ad 7 0 0), .int (xs (i + 1)), .int (xs (i + 2)), .ref (ad 16 0 0)]) (S := []) (lwv_loop h7) fhL_loop wq545 wq546 rfl rfl (Nat.le_of_ble_eq_true rfl) (by decide) (by decide) hcc hcs dL_law_484 ?_
    refine aw_istore (L2 := [some (.ref b), some (.ref (ad 7 0 0)), some (.ref (ad 14 0 0)), some (.ref (ad 16 0 0)), some (.int (nI i)), some (.int 0), none]) (Nat.le_of_ble_eq_true rfl) rfl rfl dL_law_487 ?_
    refine aw_aload_n (x := ad 14 0 0) rfl dL_law_489 ?_
    refine aw_aload_n (x := b) rfl dL_law_490 ?_
    refine aw_iload (x := (nI i)) rfl dL_law_491 ?_
    refine aw_iconst (v := 1) (by decide) dL_law_493 ?_
    refine aw_iaddz (z := nI (i + 1)) (nI_add i 1) dL_law_494 ?_
    refine aw_sld (v := xs (i + 1)) rfl (nI_in (by omega) (by omega)) (by rw [nI_clamp (by omega)]) dL_law_495 ?_
    refine aw_aload_n (x := b) rfl dL_law_496 ?_
    refine aw_iload (x := (nI i)) rfl dL_law_497 ?_
    refine aw_iconst (v := 2) (by decide) dL_law_499 ?_
    refine aw_iaddz (z := nI (i + 2)) (nI_add i 2) dL_law_500 ?_
    refine aw_sld (v := xs (i + 2)) rfl (nI_in (by omega) (by omega)) (by rw [nI_clamp (by omega)]) dL_law_501 ?_
    refine aw_0V (As := [.int (xs (i + 1)), .int (xs (i + 2))]) (S := []) (v := some (.int v)) (o2 := o2) h8 (mm_fit_of cbX8_loop (Nat.le_of_ble_eq_true rfl) (Nat.le_of_ble_eq_true rfl)) wq997 cvX8_loop wv14 rfl rfl rfl (Nat.le_of_ble_eq_true rfl) rfl rfl hcc hcs rfl dL_law_502 ?_
    refine aw_istore (L2 := [some (.ref b), some (.ref (ad 7 0 0)), some (.ref (ad 14 0 0)), some (.ref (ad 16 0 0)), some (.int (nI i)), some (.int 0), some (.int v)]) (Nat.le_of_ble_eq_true rfl) rfl rfl dL_law_505 ?_
    refine aw_aload_n (x := ad 14 0 0) rfl dL_law_507 ?_
    refine aw_0V (As := []) (S := []) (v := some (.int 0)) (o2 := o2) (thr_of h12) (mm_fit_of cbX8_thrown (Nat.le_of_ble_eq_true rfl) (Nat.le_of_ble_eq_true rfl)) wq914 cvX8_thrown wv14 rfl rfl rfl (Nat.le_of_ble_eq_true rfl) rfl rfl hcc hcs rfl dL_law_508 ?_
    refine aw_iload (x := 0) rfl dL_law_511 ?_
    refine aw_icmp_eq (tgt := 518) (by decide) dL_law_513 (fun _ => ?_) (fun z => absurd rfl z)
    refine aw_iload (x := 0) rfl dL_law_518 ?_
    refine aw_if_ne (tgt := 535) (by decide) dL_law_520 (fun z => absurd rfl z) (fun _ => ?_)
    refine aw_aload_n (x := ad 16 0 0) rfl dL_law_523 ?_
    refine aw_iconst (v := 0) (by decide) dL_law_524 ?_
    refine aw_lld rfl dL_law_525 ?_
    refine aw_iload (x := v) rfl dL_law_526 ?_
    refine aw_i2l dL_law_528 ?_
    refine aw_lcmp dL_law_529 ?_
    refine aw_if_eq (tgt := 535) (by decide) dL_law_530 (fun _ => ?_) (fun z => absurd hcmp z)
    refine aw_goto (tgt := 1946) (by decide) dL_law_535 ?_
    exact AW.locs (K o2 n2 m2 c2 R2) (lsub_keep (lsub_keep (lsub_keep (lsub_keep (lsub_keep (lsub_none (lsub_none lsub_nil)))))))
  · simp only [List.mem_cons, Prod.mk.injEq, List.not_mem_nil, or_false] at hE
    rcases hE with ⟨rfl, rfl⟩ | ⟨rfl, rfl⟩
    · skip
      refine aw_aload_n (x := ad 7 0 0) rfl dL_law_470 ?_
      refine aw_aload_n (x := b) rfl dL_law_471 ?_
      refine aw_iload (x := (nI i)) rfl dL_law_472 ?_
      refine aw_iconst (v := 1) (by decide) dL_law_474 ?_
      refine aw_iaddz (z := nI (i + 1)) (nI_add i 1) dL_law_475 ?_
      refine aw_sld (v := xs (i + 1)) rfl (nI_in (by omega) (by omega)) (by rw [nI_clamp (by omega)]) dL_law_476 ?_
      refine aw_aload_n (x := b) rfl dL_law_477 ?_
      refine aw_iload (x := (nI i)) rfl dL_law_478 ?_
      refine aw_iconst (v := 2) (by decide) dL_law_480 ?_
      refine aw_iaddz (z := nI (i + 2)) (nI_add i 2) dL_law_481 ?_
      refine aw_sld (v := xs (i + 2)) rfl (nI_in (by omega) (by omega)) (by rw [nI_clamp (by omega)]) dL_law_482 ?_
      refine aw_aload_n (x := ad 16 0 0) rfl dL_law_483 ?_
      refine aw_L (As := [.ref (ad 7 0 0), .int (xs (i + 1)), .int (xs (i + 2)), .ref (ad 16 0 0)]) (S := []) (lwx_loop_eI h7) fhL_loop wq545 wq546 rfl rfl (Nat.le_of_ble_eq_true rfl) (by decide) (by decide) hcc hcs dL_law_484 ?_
      refine aw_istore (L2 := [some (.ref b), some (.ref (ad 7 0 0)), some (.ref (ad 14 0 0)), some (.ref (ad 16 0 0)), some (.int (nI i)), some (.int 1), none]) (Nat.le_of_ble_eq_true rfl) rfl rfl dL_law_487 ?_
      refine aw_aload_n (x := ad 14 0 0) rfl dL_law_489 ?_
      refine aw_aload_n (x := b) rfl dL_law_490 ?_
      refine aw_iload (x := (nI i)) rfl dL_law_491 ?_
      refine aw_iconst (v := 1) (by decide) dL_law_493 ?_
      refine aw_iaddz (z := nI (i + 1)) (nI_add i 1) dL_law_494 ?_
      refine aw_sld (v := xs (i + 1)) rfl (nI_in (by omega) (by omega)) (by rw [nI_clamp (by omega)]) dL_law_495 ?_
      refine aw_aload_n (x := b) rfl dL_law_496 ?_
      refine aw_iload (x := (nI i)) rfl dL_law_497 ?_
      refine aw_iconst (v := 2) (by decide) dL_law_499 ?_
      refine aw_iaddz (z := nI (i + 2)) (nI_add i 2) dL_law_500 ?_
      refine aw_sld (v := xs (i + 2)) rfl (nI_in (by omega) (by omega)) (by rw [nI_clamp (by omega)]) dL_law_501 ?_
      refine aw_0V (As := [.int (xs (i + 1)), .int (xs (i + 2))]) (S := []) (v := some (.int 0)) (o2 := (wd_w o 12 1 1)) h8 (mm_fit_of cbX8_loop (Nat.le_of_ble_eq_true rfl) (Nat.le_of_ble_eq_true rfl)) wq997 cvX8_loop wv14 rfl rfl rfl (Nat.le_of_ble_eq_true rfl) rfl rfl hcc hcs rfl dL_law_502 ?_
      refine aw_istore (L2 := [some (.ref b), some (.ref (ad 7 0 0)), some (.ref (ad 14 0 0)), some (.ref (ad 16 0 0)), some (.int (nI i)), some (.int 1), some (.int 0)]) (Nat.le_of_ble_eq_true rfl) rfl rfl dL_law_505 ?_
      refine aw_aload_n (x := ad 14 0 0) rfl dL_law_507 ?_
      refine aw_0V (As := []) (S := []) (v := some (.int 1)) (o2 := (wd_w o 12 1 1)) (thr_of (by rw [wd_get, if_pos ⟨rfl, rfl⟩])) (mm_fit_of cbX8_thrown (Nat.le_of_ble_eq_true rfl) (Nat.le_of_ble_eq_true rfl)) wq914 cvX8_thrown wv14 rfl rfl rfl (Nat.le_of_ble_eq_true rfl) rfl rfl hcc hcs rfl dL_law_508 ?_
      refine aw_iload (x := 1) rfl dL_law_511 ?_
      refine aw_icmp_eq (tgt := 518) (by decide) dL_law_513 (fun _ => ?_) (fun z => absurd rfl z)
      refine aw_iload (x := 1) rfl dL_law_518 ?_
      refine aw_if_ne (tgt := 535) (by decide) dL_law_520 (fun _ => ?_) (fun z => absurd z (by decide))
      refine aw_goto (tgt := 1946) (by decide) dL_law_535 ?_
      exact AW.locs (K _ n m c (R.w 1)) (lsub_keep (lsub_keep (lsub_keep (lsub_keep (lsub_keep (lsub_none (lsub_none lsub_nil)))))))
    · skip
      refine aw_aload_n (x := ad 7 0 0) rfl dL_law_470 ?_
      refine aw_aload_n (x := b) rfl dL_law_471 ?_
      refine aw_iload (x := (nI i)) rfl dL_law_472 ?_
      refine aw_iconst (v := 1) (by decide) dL_law_474 ?_
      refine aw_iaddz (z := nI (i + 1)) (nI_add i 1) dL_law_475 ?_
      refine aw_sld (v := xs (i + 1)) rfl (nI_in (by omega) (by omega)) (by rw [nI_clamp (by omega)]) dL_law_476 ?_
      refine aw_aload_n (x := b) rfl dL_law_477 ?_
      refine aw_iload (x := (nI i)) rfl dL_law_478 ?_
      refine aw_iconst (v := 2) (by decide) dL_law_480 ?_
      refine aw_iaddz (z := nI (i + 2)) (nI_add i 2) dL_law_481 ?_
      refine aw_sld (v := xs (i + 2)) rfl (nI_in (by omega) (by omega)) (by rw [nI_clamp (by omega)]) dL_law_482 ?_
      refine aw_aload_n (x := ad 16 0 0) rfl dL_law_483 ?_
      refine aw_L (As := [.ref (ad 7 0 0), .int (xs (i + 1)), .int (xs (i + 2)), .ref (ad 16 0 0)]) (S := []) (lwx_loop_eA h7) fhL_loop wq545 wq546 rfl rfl (Nat.le_of_ble_eq_true rfl) (by decide) (by decide) hcc hcs dL_law_484 ?_
      refine aw_istore (L2 := [some (.ref b), some (.ref (ad 7 0 0)), some (.ref (ad 14 0 0)), some (.ref (ad 16 0 0)), some (.int (nI i)), some (.int 2), none]) (Nat.le_of_ble_eq_true rfl) rfl rfl dL_law_487 ?_
      refine aw_aload_n (x := ad 14 0 0) rfl dL_law_489 ?_
      refine aw_aload_n (x := b) rfl dL_law_490 ?_
      refine aw_iload (x := (nI i)) rfl dL_law_491 ?_
      refine aw_iconst (v := 1) (by decide) dL_law_493 ?_
      refine aw_iaddz (z := nI (i + 1)) (nI_add i 1) dL_law_494 ?_
      refine aw_sld (v := xs (i + 1)) rfl (nI_in (by omega) (by omega)) (by rw [nI_clamp (by omega)]) dL_law_495 ?_
      refine aw_aload_n (x := b) rfl dL_law_496 ?_
      refine aw_iload (x := (nI i)) rfl dL_law_497 ?_
      refine aw_iconst (v := 2) (by decide) dL_law_499 ?_
      refine aw_iaddz (z := nI (i + 2)) (nI_add i 2) dL_law_500 ?_
      refine aw_sld (v := xs (i + 2)) rfl (nI_in (by omega) (by omega)) (by rw [nI_clamp (by omega)]) dL_law_501 ?_
      refine aw_0V (As := [.int (xs (i + 1)), .int (xs (i + 2))]) (S := []) (v := some (.int 0)) (o2 := (wd_w o 12 1 2)) h8 (mm_fit_of cbX8_loop (Nat.le_of_ble_eq_true rfl) (Nat.le_of_ble_eq_true rfl)) wq997 cvX8_loop wv14 rfl rfl rfl (Nat.le_of_ble_eq_true rfl) rfl rfl hcc hcs rfl dL_law_502 ?_
      refine aw_istore (L2 := [some (.ref b), some (.ref (ad 7 0 0)), some (.ref (ad 14 0 0)), some (.ref (ad 16 0 0)), some (.int (nI i)), some (.int 2), some (.int 0)]) (Nat.le_of_ble_eq_true rfl) rfl rfl dL_law_505 ?_
      refine aw_aload_n (x := ad 14 0 0) rfl dL_law_507 ?_
      refine aw_0V (As := []) (S := []) (v := some (.int 2)) (o2 := (wd_w o 12 1 2)) (thr_of (by rw [wd_get, if_pos ⟨rfl, rfl⟩])) (mm_fit_of cbX8_thrown (Nat.le_of_ble_eq_true rfl) (Nat.le_of_ble_eq_true rfl)) wq914 cvX8_thrown wv14 rfl rfl rfl (Nat.le_of_ble_eq_true rfl) rfl rfl hcc hcs rfl dL_law_508 ?_
      refine aw_iload (x := 2) rfl dL_law_511 ?_
      refine aw_icmp_eq (tgt := 518) (by decide) dL_law_513 (fun _ => ?_) (fun z => absurd rfl z)
      refine aw_iload (x := 2) rfl dL_law_518 ?_
      refine aw_if_ne (tgt := 535) (by decide) dL_law_520 (fun _ => ?_) (fun z => absurd z (by decide))
      refine aw_goto (tgt := 1946) (by decide) dL_law_535 ?_
      exact AW.locs (K _ n m c (R.w 2)) (lsub_keep (lsub_keep (lsub_keep (lsub_keep (lsub_keep (lsub_none (lsub_none lsub_nil)))))))
theorem bk_7 {ad : Nat → Nat → Nat → Nat} {o : wd_S} {n m c b L i : Nat} {xs : Nat → Int32} {cc cs : Nat} {F : (Option Value ⊕ String) → wd_S → Prop} (hL : L ≤ 2048) (hi : i + 4 ≤ L) (R : Rel o n m c) (hcc : cc + 2 ≤ (mm_mo (ML_law b L xs)).cells) (hcs : cs + 12 ≤ (mm_mo (ML_law b L xs)).slots) (K : ∀ o2 n m c, Rel o2 n m c → AW ad (ML_law b L xs) 1946 [some (.ref b), some (.ref (ad 7 0 0)), some (.ref (ad 14 0 0)), some (.ref (ad 16 0 0)), some (.int (nI i)), none, none] [] o2 (cc + 2) (cs + 12) F) : AW ad (ML_law b L xs) 538 [some (.ref b), some (.ref (ad 7 0 0)), some (.ref (ad 14 0 0)), some (.ref (ad 16 0 0)), some (.int (nI i)), none, none] [] o cc cs F := by
  rcases sp_lift (ad := ad) R (x := xs (i + 1)) with ⟨v, o1, o2, h7, h8, hP, h12, hj, n2, m2, c2, R2⟩ | ⟨E, k, hE, h7, h8⟩
  · have hcmp : lg_cmp (o2.2.2 1) v.toInt64 = 0 := by rw [hj]; exact cmp_self _
    refine aw_aload_n (x := ad 7 0 0) rfl dL_law_538 ?_
    refine aw_aload_n (x := b) rfl dL_law_539 ?_
    refine aw_iload (x := (nI i)) rfl dL_law_540 ?_
    refine aw_iconst (v := 1) (by decide) dL_law_542 ?_
    refine aw_iaddz (z := nI (i + 1)) (nI_add i 1) dL_law_543 ?_
    refine aw_sld (v := xs (i + 1)) rfl (nI_in (by omega) (by omega)) (by rw [nI_clamp (by omega)]) dL_law_544 ?_
    refine aw_aload_n (x := ad 16 0 0) rfl dL_law_545 ?_
    refine aw_L (As := [.ref (ad 7 0 0), .int (xs (i + 1)), .ref (ad 16 0 0)]) (S := []) (lwv_lift h7) fhL_lift wq552 wq553 rfl rfl (Nat.le_of_ble_eq_true rfl) (by decide) (by decide) hcc hcs dL_law_546 ?_
    refine aw_istore (L2 := [some (.ref b), some (.ref (ad 7 0 0)), some (.ref (ad 14 0 0)), some (.ref (ad 16 0 0)), some (.int (nI i)), some (.int 0), none]) (Nat.le_of_ble_eq_true rfl) rfl rfl dL_law_549 ?_
    refine aw_aload_n (x := ad 14 0 0) rfl dL_law_551 ?_
    refine aw_aload_n (x := b) rfl dL_law_552 ?_
    refine aw_iload (x := (nI i)) rfl dL_law_553 ?_
    refine aw_iconst (v := 1) (by decide) dL_law_555 ?_
    refine aw_iaddz (z := nI (i + 1)) (nI_add i 1) dL_law_556 ?_
    refine aw_sld (v := xs (i + 1)) rfl (nI_in (by omega) (by omega)) (by rw [nI_clamp (by omega)]) dL_law_557 ?_
    refine aw_0V (As := [.int (xs (i + 1))]) (S := []) (v := some (.int v)) (o2 := o2) h8 (mm_fit_of cbX8_lift (Nat.le_of_ble_eq_true rfl) (Nat.le_of_ble_eq_true rfl)) wq1005 cvX8_lift wv14 rfl rfl rfl (Nat.le_of_ble_eq_true rfl) rfl rfl hcc hcs rfl dL_law_558 ?_
    refine aw_istore (L2 := [some (.ref b), some (.ref (ad 7 0 0)), some (.ref (ad 14 0 0)), some (.ref (ad 16 0 0)), some (.int (nI i)), some (.int 0), some (.int v)]) (Nat.le_of_ble_eq_true rfl) rfl rfl dL_law_561 ?_
    refine aw_aload_n (x := ad 14 0 0) rfl dL_law_563 ?_
    refine aw_0V (As := []) (S := []) (v := some (.int 0)) (o2 := o2) (thr_of h12) (mm_fit_of cbX8_thrown (Nat.le_of_ble_eq_true rfl) (Nat.le_of_ble_eq_true rfl)) wq914 cvX8_thrown wv14 rfl rfl rfl (Nat.le_of_ble_eq_true rfl) rfl rfl hcc hcs rfl dL_law_564 ?_
    refine aw_iload (x := 0) rfl dL_law_567 ?_
    refine aw_icmp_eq (tgt := 574) (by decide) dL_law_569 (fun _ => ?_) (fun z => absurd rfl z)
    refine aw_iload (x := 0) rfl dL_law_574 ?_
    refine aw_if_ne (tgt := 591) (by decide) dL_law_576 (fun z => absurd rfl z) (fun _ => ?_)
    refine aw_aload_n (x := ad 16 0 0) rfl dL_law_579 ?_
    refine aw_iconst (v := 0) (by decide) dL_law_580 ?_
    refine aw_lld rfl dL_law_581 ?_
    refine aw_iload (x := v) rfl dL_law_582 ?_
    refine aw_i2l dL_law_584 ?_
    refine aw_lcmp dL_law_585 ?_
    refine aw_if_eq (tgt := 591) (by decide) dL_law_586 (fun _ => ?_) (fun z => absurd hcmp z)
    refine aw_goto (tgt := 1946) (by decide) dL_law_591 ?_
    exact AW.locs (K o2 n2 m2 c2 R2) (lsub_keep (lsub_keep (lsub_keep (lsub_keep (lsub_keep (lsub_none (lsub_none lsub_nil)))))))
  · simp only [List.mem_cons, Prod.mk.injEq, List.not_mem_nil, or_false] at hE
    rcases hE with ⟨rfl, rfl⟩ | ⟨rfl, rfl⟩
    · skip
      refine aw_aload_n (x := ad 7 0 0) rfl dL_law_538 ?_
      refine aw_aload_n (x := b) rfl dL_law_539 ?_
      refine aw_iload (x := (nI i)) rfl dL_law_540 ?_
      refine aw_iconst (v := 1) (by decide) dL_law_542 ?_
      refine aw_iaddz (z := nI (i + 1)) (nI_add i 1) dL_law_543 ?_
      refine aw_sld (v := xs (i + 1)) rfl (nI_in (by omega) (by omega)) (by rw [nI_clamp (by omega)]) dL_law_544 ?_
      refine aw_aload_n (x := ad 16 0 0) rfl dL_law_545 ?_
      refine aw_L (As := [.ref (ad 7 0 0), .int (xs (i + 1)), .ref (ad 16 0 0)]) (S := []) (lwx_lift_eI h7) fhL_lift wq552 wq553 rfl rfl (Nat.le_of_ble_eq_true rfl) (by decide) (by decide) hcc hcs dL_law_546 ?_
      refine aw_istore (L2 := [some (.ref b), some (.ref (ad 7 0 0)), some (.ref (ad 14 0 0)), some (.ref (ad 16 0 0)), some (.int (nI i)), some (.int 1), none]) (Nat.le_of_ble_eq_true rfl) rfl rfl dL_law_549 ?_
      refine aw_aload_n (x := ad 14 0 0) rfl dL_law_551 ?_
      refine aw_aload_n (x := b) rfl dL_law_552 ?_
      refine aw_iload (x := (nI i)) rfl dL_law_553 ?_
      refine aw_iconst (v := 1) (by decide) dL_law_555 ?_
      refine aw_iaddz (z := nI (i + 1)) (nI_add i 1) dL_law_556 ?_
      refine aw_sld (v := xs (i + 1)) rfl (nI_in (by omega) (by omega)) (by rw [nI_clamp (by omega)]) dL_law_557 ?_
      refine aw_0V (As := [.int (xs (i + 1))]) (S := []) (v := some (.int 0)) (o2 := (wd_w o 12 1 1)) h8 (mm_fit_of cbX8_lift (Nat.le_of_ble_eq_true rfl) (Nat.le_of_ble_eq_true rfl)) wq1005 cvX8_lift wv14 rfl rfl rfl (Nat.le_of_ble_eq_true rfl) rfl rfl hcc hcs rfl dL_law_558 ?_
      refine aw_istore (L2 := [some (.ref b), some (.ref (ad 7 0 0)), some (.ref (ad 14 0 0)), some (.ref (ad 16 0 0)), some (.int (nI i)), some (.int 1), some (.int 0)]) (Nat.le_of_ble_eq_true rfl) rfl rfl dL_law_561 ?_
      refine aw_aload_n (x := ad 14 0 0) rfl dL_law_563 ?_
      refine aw_0V (As := []) (S := []) (v := some (.int 1)) (o2 := (wd_w o 12 1 1)) (thr_of (by rw [wd_get, if_pos ⟨rfl, rfl⟩])) (mm_fit_of cbX8_thrown (Nat.le_of_ble_eq_true rfl) (Nat.le_of_ble_eq_true rfl)) wq914 cvX8_thrown wv14 rfl rfl rfl (Nat.le_of_ble_eq_true rfl) rfl rfl hcc hcs rfl dL_law_564 ?_
      refine aw_iload (x := 1) rfl dL_law_567 ?_
      refine aw_icmp_eq (tgt := 574) (by decide) dL_law_569 (fun _ => ?_) (fun z => absurd rfl z)
      refine aw_iload (x := 1) rfl dL_law_574 ?_
      refine aw_if_ne (tgt := 591) (by decide) dL_law_576 (fun _ => ?_) (fun z => absurd z (by decide))
      refine aw_goto (tgt := 1946) (by decide) dL_law_591 ?_
      exact AW.locs (K _ n m c (R.w 1)) (lsub_keep (lsub_keep (lsub_keep (lsub_keep (lsub_keep (lsub_none (lsub_none lsub_nil)))))))
    · skip
      refine aw_aload_n (x := ad 7 0 0) rfl dL_law_538 ?_
      refine aw_aload_n (x := b) rfl dL_law_539 ?_
      refine aw_iload (x := (nI i)) rfl dL_law_540 ?_
      refine aw_iconst (v := 1) (by decide) dL_law_542 ?_
      refine aw_iaddz (z := nI (i + 1)) (nI_add i 1) dL_law_543 ?_
      refine aw_sld (v := xs (i + 1)) rfl (nI_in (by omega) (by omega)) (by rw [nI_clamp (by omega)]) dL_law_544 ?_
      refine aw_aload_n (x := ad 16 0 0) rfl dL_law_545 ?_
      refine aw_L (As := [.ref (ad 7 0 0), .int (xs (i + 1)), .ref (ad 16 0 0)]) (S := []) (lwx_lift_eS h7) fhL_lift wq552 wq553 rfl rfl (Nat.le_of_ble_eq_true rfl) (by decide) (by decide) hcc hcs dL_law_546 ?_
      refine aw_istore (L2 := [some (.ref b), some (.ref (ad 7 0 0)), some (.ref (ad 14 0 0)), some (.ref (ad 16 0 0)), some (.int (nI i)), some (.int 2), none]) (Nat.le_of_ble_eq_true rfl) rfl rfl dL_law_549 ?_
      refine aw_aload_n (x := ad 14 0 0) rfl dL_law_551 ?_
      refine aw_aload_n (x := b) rfl dL_law_552 ?_
      refine aw_iload (x := (nI i)) rfl dL_law_553 ?_
      refine aw_iconst (v := 1) (by decide) dL_law_555 ?_
      refine aw_iaddz (z := nI (i + 1)) (nI_add i 1) dL_law_556 ?_
      refine aw_sld (v := xs (i + 1)) rfl (nI_in (by omega) (by omega)) (by rw [nI_clamp (by omega)]) dL_law_557 ?_
      refine aw_0V (As := [.int (xs (i + 1))]) (S := []) (v := some (.int 0)) (o2 := (wd_w o 12 1 2)) h8 (mm_fit_of cbX8_lift (Nat.le_of_ble_eq_true rfl) (Nat.le_of_ble_eq_true rfl)) wq1005 cvX8_lift wv14 rfl rfl rfl (Nat.le_of_ble_eq_true rfl) rfl rfl hcc hcs rfl dL_law_558 ?_
      refine aw_istore (L2 := [some (.ref b), some (.ref (ad 7 0 0)), some (.ref (ad 14 0 0)), some (.ref (ad 16 0 0)), some (.int (nI i)), some (.int 2), some (.int 0)]) (Nat.le_of_ble_eq_true rfl) rfl rfl dL_law_561 ?_
      refine aw_aload_n (x := ad 14 0 0) rfl dL_law_563 ?_
      refine aw_0V (As := []) (S := []) (v := some (.int 2)) (o2 := (wd_w o 12 1 2)) (thr_of (by rw [wd_get, if_pos ⟨rfl, rfl⟩])) (mm_fit_of cbX8_thrown (Nat.le_of_ble_eq_true rfl) (Nat.le_of_ble_eq_true rfl)) wq914 cvX8_thrown wv14 rfl rfl rfl (Nat.le_of_ble_eq_true rfl) rfl rfl hcc hcs rfl dL_law_564 ?_
      refine aw_iload (x := 2) rfl dL_law_567 ?_
      refine aw_icmp_eq (tgt := 574) (by decide) dL_law_569 (fun _ => ?_) (fun z => absurd rfl z)
      refine aw_iload (x := 2) rfl dL_law_574 ?_
      refine aw_if_ne (tgt := 591) (by decide) dL_law_576 (fun _ => ?_) (fun z => absurd z (by decide))
      refine aw_goto (tgt := 1946) (by decide) dL_law_591 ?_
      exact AW.locs (K _ n m c (R.w 2)) (lsub_keep (lsub_keep (lsub_keep (lsub_keep (lsub_keep (lsub_none (lsub_none lsub_nil)))))))
theorem bk_8 {ad : Nat → Nat → Nat → Nat} {o : wd_S} {n m c b L i : Nat} {xs : Nat → Int32} {cc cs : Nat} {F : (Option Value ⊕ String) → wd_S → Prop} (hL : L ≤ 2048) (hi : i + 4 ≤ L) (R : Rel o n m c) (hcc : cc + 2 ≤ (mm_mo (ML_law b L xs)).cells) (hcs : cs + 12 ≤ (mm_mo (ML_law b L xs)).slots) (K : ∀ o2 n m c, Rel o2 n m c → AW ad (ML_law b L xs) 1946 [some (.ref b), some (.ref (ad 7 0 0)), some (.ref (ad 14 0 0)), some (.ref (ad 16 0 0)), some (.int (nI i)), none, none] [] o2 (cc + 2) (cs + 12) F) : AW ad (ML_law b L xs) 594 [some (.ref b), some (.ref (ad 7 0 0)), some (.ref (ad 14 0 0)), some (.ref (ad 16 0 0)), some (.int (nI i)), none, none] [] o cc cs F := by
  rcases sp_hang (ad := ad) R (x := xs (i + 1)) with ⟨v, o1, o2, h7, h8, hP, h12, hj, n2, m2, c2, R2⟩ | ⟨E, k, hE, h7, h8⟩
  · have hcmp : lg_cmp (o2.2.2 1) v.toInt64 = 0 := by rw [hj]; exact cmp_self _
    refine aw_aload_n (x := ad 7 0 0) rfl dL_law_594 ?_
    refine aw_aload_n (x := b) rfl dL_law_595 ?_
    refine aw_iload (x := (nI i)) rfl dL_law_596 ?_
    refine aw_iconst (v := 1) (by decide) dL_law_598 ?_
    refine aw_iaddz (z := nI (i + 1)) (nI_add i 1) dL_law_599 ?_
    refine aw_sld (v := xs (i + 1)) rfl (nI_in (by omega) (by omega)) (by rw [nI_clamp (by omega)]) dL_law_600 ?_
    refine aw_aload_n (x := ad 16 0 0) rfl dL_law_601 ?_
    refine aw_L (As := [.ref (ad 7 0 0), .int (xs (i + 1)), .ref (ad 16 0 0)]) (S := []) (lwv_hang h7) fhL_hang wq595 wq596 rfl rfl (Nat.le_of_ble_eq_true rfl) (by decide) (by decide) hcc hcs dL_law_602 ?_
    refine aw_istore (L2 := [some (.ref b), some (.ref (ad 7 0 0)), some (.ref (ad 14 0 0)), some (.ref (ad 16 0 0)), some (.int (nI i)), some (.int 0), none]) (Nat.le_of_ble_eq_true rfl) rfl rfl dL_law_605 ?_
    refine aw_aload_n (x := ad 14 0 0) rfl dL_law_607 ?_
    refine aw_aload_n (x := b) rfl dL_law_608 ?_
    refine aw_iload (x := (nI i)) rfl dL_law_609 ?_
    refine aw_iconst (v := 1) (by decide) dL_law_611 ?_
    refine aw_iaddz (z := nI (i + 1)) (nI_add i 1) dL_law_612 ?_
    refine aw_sld (v := xs (i + 1)) rfl (nI_in (by omega) (by omega)) (by rw [nI_clamp (by omega)]) dL_law_613 ?_
    refine aw_0V (As := [.int (xs (i + 1))]) (S := []) (v := some (.int v)) (o2 := o2) h8 (mm_fit_of cbX8_hang (Nat.le_of_ble_eq_true rfl) (Nat.le_of_ble_eq_true rfl)) wq1021 cvX8_hang wv14 rfl rfl rfl (Nat.le_of_ble_eq_true rfl) rfl rfl hcc hcs rfl dL_law_614 ?_
    refine aw_istore (L2 := [some (.ref b), some (.ref (ad 7 0 0)), some (.ref (ad 14 0 0)), some (.ref (ad 16 0 0)), some (.int (nI i)), some (.int 0), some (.int v)]) (Nat.le_of_ble_eq_true rfl) rfl rfl dL_law_617 ?_
    refine aw_aload_n (x := ad 14 0 0) rfl dL_law_619 ?_
    refine aw_0V (As := []) (S := []) (v := some (.int 0)) (o2 := o2) (thr_of h12) (mm_fit_of cbX8_thrown (Nat.le_of_ble_eq_true rfl) (Nat.le_of_ble_eq_true rfl)) wq914 cvX8_thrown wv14 rfl rfl rfl (Nat.le_of_ble_eq_true rfl) rfl rfl hcc hcs rfl dL_law_620 ?_
    refine aw_iload (x := 0) rfl dL_law_623 ?_
    refine aw_icmp_eq (tgt := 630) (by decide) dL_law_625 (fun _ => ?_) (fun z => absurd rfl z)
    refine aw_iload (x := 0) rfl dL_law_630 ?_
    refine aw_if_ne (tgt := 647) (by decide) dL_law_632 (fun z => absurd rfl z) (fun _ => ?_)
    refine aw_aload_n (x := ad 16 0 0) rfl dL_law_635 ?_
    refine aw_iconst (v := 0) (by decide) dL_law_636 ?_
    refine aw_lld rfl dL_law_637 ?_
    refine aw_iload (x := v) rfl dL_law_638 ?_
    refine aw_i2l dL_law_640 ?_
    refine aw_lcmp dL_law_641 ?_
    refine aw_if_eq (tgt := 647) (by decide) dL_law_642 (fun _ => ?_) (fun z => absurd hcmp z)
    refine aw_goto (tgt := 1946) (by decide) dL_law_647 ?_
    exact AW.locs (K o2 n2 m2 c2 R2) (lsub_keep (lsub_keep (lsub_keep (lsub_keep (lsub_keep (lsub_none (lsub_none lsub_nil)))))))
  · simp only [List.mem_cons, Prod.mk.injEq, List.not_mem_nil, or_false] at hE
    rcases hE with ⟨rfl, rfl⟩ | ⟨rfl, rfl⟩
    · skip
      refine aw_aload_n (x := ad 7 0 0) rfl dL_law_594 ?_
      refine aw_aload_n (x := b) rfl dL_law_595 ?_
      refine aw_iload (x := (nI i)) rfl dL_law_596 ?_
      refine aw_iconst (v := 1) (by decide) dL_law_598 ?_
      refine aw_iaddz (z := nI (i + 1)) (nI_add i 1) dL_law_599 ?_
      refine aw_sld (v := xs (i + 1)) rfl (nI_in (by omega) (by omega)) (by rw [nI_clamp (by omega)]) dL_law_600 ?_
      refine aw_aload_n (x := ad 16 0 0) rfl dL_law_601 ?_
      refine aw_L (As := [.ref (ad 7 0 0), .int (xs (i + 1)), .ref (ad 16 0 0)]) (S := []) (lwx_hang_eI h7) fhL_hang wq595 wq596 rfl rfl (Nat.le_of_ble_eq_true rfl) (by decide) (by decide) hcc hcs dL_law_602 ?_
      refine aw_istore (L2 := [some (.ref b), some (.ref (ad 7 0 0)), some (.ref (ad 14 0 0)), some (.ref (ad 16 0 0)), some (.int (nI i)), some (.int 1), none]) (Nat.le_of_ble_eq_true rfl) rfl rfl dL_law_605 ?_
      refine aw_aload_n (x := ad 14 0 0) rfl dL_law_607 ?_
      refine aw_aload_n (x := b) rfl dL_law_608 ?_
      refine aw_iload (x := (nI i)) rfl dL_law_609 ?_
      refine aw_iconst (v := 1) (by decide) dL_law_611 ?_
      refine aw_iaddz (z := nI (i + 1)) (nI_add i 1) dL_law_612 ?_
      refine aw_sld (v := xs (i + 1)) rfl (nI_in (by omega) (by omega)) (by rw [nI_clamp (by omega)]) dL_law_613 ?_
      refine aw_0V (As := [.int (xs (i + 1))]) (S := []) (v := some (.int 0)) (o2 := (wd_w o 12 1 1)) h8 (mm_fit_of cbX8_hang (Nat.le_of_ble_eq_true rfl) (Nat.le_of_ble_eq_true rfl)) wq1021 cvX8_hang wv14 rfl rfl rfl (Nat.le_of_ble_eq_true rfl) rfl rfl hcc hcs rfl dL_law_614 ?_
      refine aw_istore (L2 := [some (.ref b), some (.ref (ad 7 0 0)), some (.ref (ad 14 0 0)), some (.ref (ad 16 0 0)), some (.int (nI i)), some (.int 1), some (.int 0)]) (Nat.le_of_ble_eq_true rfl) rfl rfl dL_law_617 ?_
      refine aw_aload_n (x := ad 14 0 0) rfl dL_law_619 ?_
      refine aw_0V (As := []) (S := []) (v := some (.int 1)) (o2 := (wd_w o 12 1 1)) (thr_of (by rw [wd_get, if_pos ⟨rfl, rfl⟩])) (mm_fit_of cbX8_thrown (Nat.le_of_ble_eq_true rfl) (Nat.le_of_ble_eq_true rfl)) wq914 cvX8_thrown wv14 rfl rfl rfl (Nat.le_of_ble_eq_true rfl) rfl rfl hcc hcs rfl dL_law_620 ?_
      refine aw_iload (x := 1) rfl dL_law_623 ?_
      refine aw_icmp_eq (tgt := 630) (by decide) dL_law_625 (fun _ => ?_) (fun z => absurd rfl z)
      refine aw_iload (x := 1) rfl dL_law_630 ?_
      refine aw_if_ne (tgt := 647) (by decide) dL_law_632 (fun _ => ?_) (fun z => absurd z (by decide))
      refine aw_goto (tgt := 1946) (by decide) dL_law_647 ?_
      exact AW.locs (K _ n m c (R.w 1)) (lsub_keep (lsub_keep (lsub_keep (lsub_keep (lsub_keep (lsub_none (lsub_none lsub_nil)))))))
    · skip
      refine aw_aload_n (x := ad 7 0 0) rfl dL_law_594 ?_
      refine aw_aload_n (x := b) rfl dL_law_595 ?_
      refine aw_iload (x := (nI i)) rfl dL_law_596 ?_
      refine aw_iconst (v := 1) (by decide) dL_law_598 ?_
      refine aw_iaddz (z := nI (i + 1)) (nI_add i 1) dL_law_599 ?_
      refine aw_sld (v := xs (i + 1)) rfl (nI_in (by omega) (by omega)) (by rw [nI_clamp (by omega)]) dL_law_600 ?_
      refine aw_aload_n (x := ad 16 0 0) rfl dL_law_601 ?_
      refine aw_L (As := [.ref (ad 7 0 0), .int (xs (i + 1)), .ref (ad 16 0 0)]) (S := []) (lwx_hang_eS h7) fhL_hang wq595 wq596 rfl rfl (Nat.le_of_ble_eq_true rfl) (by decide) (by decide) hcc hcs dL_law_602 ?_
      refine aw_istore (L2 := [some (.ref b), some (.ref (ad 7 0 0)), some (.ref (ad 14 0 0)), some (.ref (ad 16 0 0)), some (.int (nI i)), some (.int 2), none]) (Nat.le_of_ble_eq_true rfl) rfl rfl dL_law_605 ?_
      refine aw_aload_n (x := ad 14 0 0) rfl dL_law_607 ?_
      refine aw_aload_n (x := b) rfl dL_law_608 ?_
      refine aw_iload (x := (nI i)) rfl dL_law_609 ?_
      refine aw_iconst (v := 1) (by decide) dL_law_611 ?_
      refine aw_iaddz (z := nI (i + 1)) (nI_add i 1) dL_law_612 ?_
      refine aw_sld (v := xs (i + 1)) rfl (nI_in (by omega) (by omega)) (by rw [nI_clamp (by omega)]) dL_law_613 ?_
      refine aw_0V (As := [.int (xs (i + 1))]) (S := []) (v := some (.int 0)) (o2 := (wd_w o 12 1 2)) h8 (mm_fit_of cbX8_hang (Nat.le_of_ble_eq_true rfl) (Nat.le_of_ble_eq_true rfl)) wq1021 cvX8_hang wv14 rfl rfl rfl (Nat.le_of_ble_eq_true rfl) rfl rfl hcc hcs rfl dL_law_614 ?_
      refine aw_istore (L2 := [some (.ref b), some (.ref (ad 7 0 0)), some (.ref (ad 14 0 0)), some (.ref (ad 16 0 0)), some (.int (nI i)), some (.int 2), some (.int 0)]) (Nat.le_of_ble_eq_true rfl) rfl rfl dL_law_617 ?_
      refine aw_aload_n (x := ad 14 0 0) rfl dL_law_619 ?_
      refine aw_0V (As := []) (S := []) (v := some (.int 2)) (o2 := (wd_w o 12 1 2)) (thr_of (by rw [wd_get, if_pos ⟨rfl, rfl⟩])) (mm_fit_of cbX8_thrown (Nat.le_of_ble_eq_true rfl) (Nat.le_of_ble_eq_true rfl)) wq914 cvX8_thrown wv14 rfl rfl rfl (Nat.le_of_ble_eq_true rfl) rfl rfl hcc hcs rfl dL_law_620 ?_
      refine aw_iload (x := 2) rfl dL_law_623 ?_
      refine aw_icmp_eq (tgt := 630) (by decide) dL_law_625 (fun _ => ?_) (fun z => absurd rfl z)
      refine aw_iload (x := 2) rfl dL_law_630 ?_
      refine aw_if_ne (tgt := 647) (by decide) dL_law_632 (fun _ => ?_) (fun z => absurd z (by decide))
      refine aw_goto (tgt := 1946) (by decide) dL_law_647 ?_
      exact AW.locs (K _ n m c (R.w 2)) (lsub_keep (lsub_keep (lsub_keep (lsub_keep (lsub_keep (lsub_none (lsub_none lsub_nil)))))))
theorem bk_9 {ad : Nat → Nat → Nat → Nat} {o : wd_S} {n m c b L i : Nat} {xs : Nat → Int32} {cc cs : Nat} {F : (Option Value ⊕ String) → wd_S → Prop} (hL : L ≤ 2048) (hi : i + 4 ≤ L) (R : Rel o n m c) (hcc : cc + 2 ≤ (mm_mo (ML_law b L xs)).cells) (hcs : cs + 12 ≤ (mm_mo (ML_law b L xs)).slots) (K : ∀ o2 n m c, Rel o2 n m c → AW ad (ML_law b L xs) 1946 [some (.ref b), some (.ref (ad 7 0 0)), some (.ref (ad 14 0 0)), some (.ref (ad 16 0 0)), some (.int (nI i)), none, none] [] o2 (cc + 2) (cs + 12) F) : AW ad (ML_law b L xs) 650 [some (.ref b), some (.ref (ad 7 0 0)), some (.ref (ad 14 0 0)), some (.ref (ad 16 0 0)), some (.int (nI i)), none, none] [] o cc cs F := by
  rcases sp_dial (ad := ad) R (x := xs (i + 1)) (y := xs (i + 2)) with ⟨v, o1, o2, h7, h8, hP, h12, hj, n2, m2, c2, R2⟩ | ⟨E, k, hE, h7, h8⟩
  · have hcmp : lg_cmp (o2.2.2 1) v.toInt64 = 0 := by rw [hj]; exact cmp_self _
    refine aw_aload_n (x := ad 7 0 0) rfl dL_law_650 ?_
    refine aw_aload_n (x := b) rfl dL_law_651 ?_
    refine aw_iload (x := (nI i)) rfl dL_law_652 ?_
    refine aw_iconst (v := 1) (by decide) dL_law_654 ?_
    refine aw_iaddz (z := nI (i + 1)) (nI_add i 1) dL_law_655 ?_
    refine aw_sld (v := xs (i + 1)) rfl (nI_in (by omega) (by omega)) (by rw [nI_clamp (by omega)]) dL_law_656 ?_
    refine aw_aload_n (x := b) rfl dL_law_657 ?_
    refine aw_iload (x := (nI i)) rfl dL_law_658 ?_
    refine aw_iconst (v := 2) (by decide) dL_law_660 ?_
    refine aw_iaddz (z := nI (i + 2)) (nI_add i 2) dL_law_661 ?_
    refine aw_sld (v := xs (i + 2)) rfl (nI_in (by omega) (by omega)) (by rw [nI_clamp (by omega)]) dL_law_662 ?_
    refine aw_aload_n (x := ad 16 0 0) rfl dL_law_663 ?_
    refine aw_L (As := [.ref (ad 7 0 0), .int (xs (i + 1)), .int (xs (i + 2)), .ref (ad 16 0 0)]) (S := []) (lwv_dial h7) fhL_dial wq621 wq622 rfl rfl (Nat.le_of_ble_eq_true rfl) (by decide) (by decide) hcc hcs dL_law_664 ?_
    refine aw_istore (L2 := [some (.ref b), some (.ref (ad 7 0 0)), some (.ref (ad 14 0 0)), some (.ref (ad 16 0 0)), some (.int (nI i)), some (.int 0), none]) (Nat.le_of_ble_eq_true rfl) rfl rfl dL_law_667 ?_
    refine aw_aload_n (x := ad 14 0 0) rfl dL_law_669 ?_
    refine aw_aload_n (x := b) rfl dL_law_670 ?_
    refine aw_iload (x := (nI i)) rfl dL_law_671 ?_
    refine aw_iconst (v := 1) (by decide) dL_law_673 ?_
    refine aw_iaddz (z := nI (i + 1)) (nI_add i 1) dL_law_674 ?_
    refine aw_sld (v := xs (i + 1)) rfl (nI_in (by omega) (by omega)) (by rw [nI_clamp (by omega)]) dL_law_675 ?_
    refine aw_aload_n (x := b) rfl dL_law_676 ?_
    refine aw_iload (x := (nI i)) rfl dL_law_677 ?_
    refine aw_iconst (v := 2) (by decide) dL_law_679 ?_
    refine aw_iaddz (z := nI (i + 2)) (nI_add i 2) dL_law_680 ?_
    refine aw_sld (v := xs (i + 2)) rfl (nI_in (by omega) (by omega)) (by rw [nI_clamp (by omega)]) dL_law_681 ?_
    refine aw_0V (As := [.int (xs (i + 1)), .int (xs (i + 2))]) (S := []) (v := some (.int v)) (o2 := o2) h8 (mm_fit_of cbX8_dial (Nat.le_of_ble_eq_true rfl) (Nat.le_of_ble_eq_true rfl)) wq1041 cvX8_dial wv14 rfl rfl rfl (Nat.le_of_ble_eq_true rfl) rfl rfl hcc hcs rfl dL_law_682 ?_
    refine aw_istore (L2 := [some (.ref b), some (.ref (ad 7 0 0)), some (.ref (ad 14 0 0)), some (.ref (ad 16 0 0)), some (.int (nI i)), some (.int 0), some (.int v)]) (Nat.le_of_ble_eq_true rfl) rfl rfl dL_law_685 ?_
    refine aw_aload_n (x := ad 14 0 0) rfl dL_law_687 ?_
    refine aw_0V (As := []) (S := []) (v := some (.int 0)) (o2 := o2) (thr_of h12) (mm_fit_of cbX8_thrown (Nat.le_of_ble_eq_true rfl) (Nat.le_of_ble_eq_true rfl)) wq914 cvX8_thrown wv14 rfl rfl rfl (Nat.le_of_ble_eq_true rfl) rfl rfl hcc hcs rfl dL_law_688 ?_
    refine aw_iload (x := 0) rfl dL_law_691 ?_
    refine aw_icmp_eq (tgt := 698) (by decide) dL_law_693 (fun _ => ?_) (fun z => absurd rfl z)
    refine aw_iload (x := 0) rfl dL_law_698 ?_
    refine aw_if_ne (tgt := 715) (by decide) dL_law_700 (fun z => absurd rfl z) (fun _ => ?_)
    refine aw_aload_n (x := ad 16 0 0) rfl dL_law_703 ?_
    refine aw_iconst (v := 0) (by decide) dL_law_704 ?_
    refine aw_lld rfl dL_law_705 ?_
    refine aw_iload (x := v) rfl dL_law_706 ?_
    refine aw_i2l dL_law_708 ?_
    refine aw_lcmp dL_law_709 ?_
    refine aw_if_eq (tgt := 715) (by decide) dL_law_710 (fun _ => ?_) (fun z => absurd hcmp z)
    refine aw_goto (tgt := 1946) (by decide) dL_law_715 ?_
    exact AW.locs (K o2 n2 m2 c2 R2) (lsub_keep (lsub_keep (lsub_keep (lsub_keep (lsub_keep (lsub_none (lsub_none lsub_nil)))))))
  · simp only [List.mem_cons, Prod.mk.injEq, List.not_mem_nil, or_false] at hE
    rcases hE with ⟨rfl, rfl⟩ | ⟨rfl, rfl⟩
    · skip
      refine aw_aload_n (x := ad 7 0 0) rfl dL_law_650 ?_
      refine aw_aload_n (x := b) rfl dL_law_651 ?_
      refine aw_iload (x := (nI i)) rfl dL_law_652 ?_
      refine aw_iconst (v := 1) (by decide) dL_law_654 ?_
      refine aw_iaddz (z := nI (i + 1)) (nI_add i 1) dL_law_655 ?_
      refine aw_sld (v := xs (i + 1)) rfl (nI_in (by omega) (by omega)) (by rw [nI_clamp (by omega)]) dL_law_656 ?_
      refine aw_aload_n (x := b) rfl dL_law_657 ?_
      refine aw_iload (x := (nI i)) rfl dL_law_658 ?_
      refine aw_iconst (v := 2) (by decide) dL_law_660 ?_
      refine aw_iaddz (z := nI (i + 2)) (nI_add i 2) dL_law_661 ?_
      refine aw_sld (v := xs (i + 2)) rfl (nI_in (by omega) (by omega)) (by rw [nI_clamp (by omega)]) dL_law_662 ?_
      refine aw_aload_n (x := ad 16 0 0) rfl dL_law_663 ?_
      refine aw_L (As := [.ref (ad 7 0 0), .int (xs (i + 1)), .int (xs (i + 2)), .ref (ad 16 0 0)]) (S := []) (lwx_dial_eI h7) fhL_dial wq621 wq622 rfl rfl (Nat.le_of_ble_eq_true rfl) (by decide) (by decide) hcc hcs dL_law_664 ?_
      refine aw_istore (L2 := [some (.ref b), some (.ref (ad 7 0 0)), some (.ref (ad 14 0 0)), some (.ref (ad 16 0 0)), some (.int (nI i)), some (.int 1), none]) (Nat.le_of_ble_eq_true rfl) rfl rfl dL_law_667 ?_
      refine aw_aload_n (x := ad 14 0 0) rfl dL_law_669 ?_
      refine aw_aload_n (x := b) rfl dL_law_670 ?_
      refine aw_iload (x := (nI i)) rfl dL_law_671 ?_
      refine aw_iconst (v := 1) (by decide) dL_law_673 ?_
      refine aw_iaddz (z := nI (i + 1)) (nI_add i 1) dL_law_674 ?_
      refine aw_sld (v := xs (i + 1)) rfl (nI_in (by omega) (by omega)) (by rw [nI_clamp (by omega)]) dL_law_675 ?_
      refine aw_aload_n (x := b) rfl dL_law_676 ?_
      refine aw_iload (x := (nI i)) rfl dL_law_677 ?_
      refine aw_iconst (v := 2) (by decide) dL_law_679 ?_
      refine aw_iaddz (z := nI (i + 2)) (nI_add i 2) dL_law_680 ?_
      refine aw_sld (v := xs (i + 2)) rfl (nI_in (by omega) (by omega)) (by rw [nI_clamp (by omega)]) dL_law_681 ?_
      refine aw_0V (As := [.int (xs (i + 1)), .int (xs (i + 2))]) (S := []) (v := some (.int 0)) (o2 := (wd_w o 12 1 1)) h8 (mm_fit_of cbX8_dial (Nat.le_of_ble_eq_true rfl) (Nat.le_of_ble_eq_true rfl)) wq1041 cvX8_dial wv14 rfl rfl rfl (Nat.le_of_ble_eq_true rfl) rfl rfl hcc hcs rfl dL_law_682 ?_
      refine aw_istore (L2 := [some (.ref b), some (.ref (ad 7 0 0)), some (.ref (ad 14 0 0)), some (.ref (ad 16 0 0)), some (.int (nI i)), some (.int 1), some (.int 0)]) (Nat.le_of_ble_eq_true rfl) rfl rfl dL_law_685 ?_
      refine aw_aload_n (x := ad 14 0 0) rfl dL_law_687 ?_
      refine aw_0V (As := []) (S := []) (v := some (.int 1)) (o2 := (wd_w o 12 1 1)) (thr_of (by rw [wd_get, if_pos ⟨rfl, rfl⟩])) (mm_fit_of cbX8_thrown (Nat.le_of_ble_eq_true rfl) (Nat.le_of_ble_eq_true rfl)) wq914 cvX8_thrown wv14 rfl rfl rfl (Nat.le_of_ble_eq_true rfl) rfl rfl hcc hcs rfl dL_law_688 ?_
      refine aw_iload (x := 1) rfl dL_law_691 ?_
      refine aw_icmp_eq (tgt := 698) (by decide) dL_law_693 (fun _ => ?_) (fun z => absurd rfl z)
      refine aw_iload (x := 1) rfl dL_law_698 ?_
      refine aw_if_ne (tgt := 715) (by decide) dL_law_700 (fun _ => ?_) (fun z => absurd z (by decide))
      refine aw_goto (tgt := 1946) (by decide) dL_law_715 ?_
      exact AW.locs (K _ n m c (R.w 1)) (lsub_keep (lsub_keep (lsub_keep (lsub_keep (lsub_keep (lsub_none (lsub_none lsub_nil)))))))
    · skip
      refine aw_aload_n (x := ad 7 0 0) rfl dL_law_650 ?_
      refine aw_aload_n (x := b) rfl dL_law_651 ?_
      refine aw_iload (x := (nI i)) rfl dL_law_652 ?_
      refine aw_iconst (v := 1) (by decide) dL_law_654 ?_
      refine aw_iaddz (z := nI (i + 1)) (nI_add i 1) dL_law_655 ?_
      refine aw_sld (v := xs (i + 1)) rfl (nI_in (by omega) (by omega)) (by rw [nI_clamp (by omega)]) dL_law_656 ?_
      refine aw_aload_n (x := b) rfl dL_law_657 ?_
      refine aw_iload (x := (nI i)) rfl dL_law_658 ?_
      refine aw_iconst (v := 2) (by decide) dL_law_660 ?_
      refine aw_iaddz (z := nI (i + 2)) (nI_add i 2) dL_law_661 ?_
      refine aw_sld (v := xs (i + 2)) rfl (nI_in (by omega) (by omega)) (by rw [nI_clamp (by omega)]) dL_law_662 ?_
      refine aw_aload_n (x := ad 16 0 0) rfl dL_law_663 ?_
      refine aw_L (As := [.ref (ad 7 0 0), .int (xs (i + 1)), .int (xs (i + 2)), .ref (ad 16 0 0)]) (S := []) (lwx_dial_eS h7) fhL_dial wq621 wq622 rfl rfl (Nat.le_of_ble_eq_true rfl) (by decide) (by decide) hcc hcs dL_law_664 ?_
      refine aw_istore (L2 := [some (.ref b), some (.ref (ad 7 0 0)), some (.ref (ad 14 0 0)), some (.ref (ad 16 0 0)), some (.int (nI i)), some (.int 2), none]) (Nat.le_of_ble_eq_true rfl) rfl rfl dL_law_667 ?_
      refine aw_aload_n (x := ad 14 0 0) rfl dL_law_669 ?_
      refine aw_aload_n (x := b) rfl dL_law_670 ?_
      refine aw_iload (x := (nI i)) rfl dL_law_671 ?_
      refine aw_iconst (v := 1) (by decide) dL_law_673 ?_
      refine aw_iaddz (z := nI (i + 1)) (nI_add i 1) dL_law_674 ?_
      refine aw_sld (v := xs (i + 1)) rfl (nI_in (by omega) (by omega)) (by rw [nI_clamp (by omega)]) dL_law_675 ?_
      refine aw_aload_n (x := b) rfl dL_law_676 ?_
      refine aw_iload (x := (nI i)) rfl dL_law_677 ?_
      refine aw_iconst (v := 2) (by decide) dL_law_679 ?_
      refine aw_iaddz (z := nI (i + 2)) (nI_add i 2) dL_law_680 ?_
      refine aw_sld (v := xs (i + 2)) rfl (nI_in (by omega) (by omega)) (by rw [nI_clamp (by omega)]) dL_law_681 ?_
      refine aw_0V (As := [.int (xs (i + 1)), .int (xs (i + 2))]) (S := []) (v := some (.int 0)) (o2 := (wd_w o 12 1 2)) h8 (mm_fit_of cbX8_dial (Nat.le_of_ble_eq_true rfl) (Nat.le_of_ble_eq_true rfl)) wq1041 cvX8_dial wv14 rfl rfl rfl (Nat.le_of_ble_eq_true rfl) rfl rfl hcc hcs rfl dL_law_682 ?_
      refine aw_istore (L2 := [some (.ref b), some (.ref (ad 7 0 0)), some (.ref (ad 14 0 0)), some (.ref (ad 16 0 0)), some (.int (nI i)), some (.int 2), some (.int 0)]) (Nat.le_of_ble_eq_true rfl) rfl rfl dL_law_685 ?_
      refine aw_aload_n (x := ad 14 0 0) rfl dL_law_687 ?_
      refine aw_0V (As := []) (S := []) (v := some (.int 2)) (o2 := (wd_w o 12 1 2)) (thr_of (by rw [wd_get, if_pos ⟨rfl, rfl⟩])) (mm_fit_of cbX8_thrown (Nat.le_of_ble_eq_true rfl) (Nat.le_of_ble_eq_true rfl)) wq914 cvX8_thrown wv14 rfl rfl rfl (Nat.le_of_ble_eq_true rfl) rfl rfl hcc hcs rfl dL_law_688 ?_
      refine aw_iload (x := 2) rfl dL_law_691 ?_
      refine aw_icmp_eq (tgt := 698) (by decide) dL_law_693 (fun _ => ?_) (fun z => absurd rfl z)
      refine aw_iload (x := 2) rfl dL_law_698 ?_
      refine aw_if_ne (tgt := 715) (by decide) dL_law_700 (fun _ => ?_) (fun z => absurd z (by decide))
      refine aw_goto (tgt := 1946) (by decide) dL_law_715 ?_
      exact AW.locs (K _ n m c (R.w 2)) (lsub_keep (lsub_keep (lsub_keep (lsub_keep (lsub_keep (lsub_none (lsub_none lsub_nil)))))))
theorem bk_10 {ad : Nat → Nat → Nat → Nat} {o : wd_S} {n m c b L i : Nat} {xs : Nat → Int32} {cc cs : Nat} {F : (Option Value ⊕ String) → wd_S → Prop} (hL : L ≤ 2048) (hi : i + 4 ≤ L) (R : Rel o n m c) (hcc : cc + 2 ≤ (mm_mo (ML_law b L xs)).cells) (hcs : cs + 12 ≤ (mm_mo (ML_law b L xs)).slots) (K : ∀ o2 n m c, Rel o2 n m c → AW ad (ML_law b L xs) 1946 [some (.ref b), some (.ref (ad 7 0 0)), some (.ref (ad 14 0 0)), some (.ref (ad 16 0 0)), some (.int (nI i)), none, none] [] o2 (cc + 2) (cs + 12) F) : AW ad (ML_law b L xs) 718 [some (.ref b), some (.ref (ad 7 0 0)), some (.ref (ad 14 0 0)), some (.ref (ad 16 0 0)), some (.int (nI i)), none, none] [] o cc cs F := by
  rcases sp_tick (ad := ad) R (x := xs (i + 1)) with ⟨v, o1, o2, h7, h8, hP, h12, hj, n2, m2, c2, R2⟩ | ⟨E, k, hE, h7, h8⟩
  · have hcmp : lg_cmp (o2.2.2 1) v.toInt64 = 0 := by rw [hj]; exact cmp_self _
    refine aw_aload_n (x := ad 7 0 0) rfl dL_law_718 ?_
    refine aw_aload_n (x := b) rfl dL_law_719 ?_
    refine aw_iload (x := (nI i)) rfl dL_law_720 ?_
    refine aw_iconst (v := 1) (by decide) dL_law_722 ?_
    refine aw_iaddz (z := nI (i + 1)) (nI_add i 1) dL_law_723 ?_
    refine aw_sld (v := xs (i + 1)) rfl (nI_in (by omega) (by omega)) (by rw [nI_clamp (by omega)]) dL_law_724 ?_
    refine aw_aload_n (x := ad 16 0 0) rfl dL_law_725 ?_
    refine aw_L (As := [.ref (ad 7 0 0), .int (xs (i + 1)), .ref (ad 16 0 0)]) (S := []) (lwv_tick h7) fhL_tick wq642 wq643 rfl rfl (Nat.le_of_ble_eq_true rfl) (by decide) (by decide) hcc hcs dL_law_726 ?_
    refine aw_istore (L2 := [some (.ref b), some (.ref (ad 7 0 0)), some (.ref (ad 14 0 0)), some (.ref (ad 16 0 0)), some (.int (nI i)), some (.int 0), none]) (Nat.le_of_ble_eq_true rfl) rfl rfl dL_law_729 ?_
    refine aw_aload_n (x := ad 14 0 0) rfl dL_law_731 ?_
    refine aw_aload_n (x := b) rfl dL_law_732 ?_
    refine aw_iload (x := (nI i)) rfl dL_law_733 ?_
    refine aw_iconst (v := 1) (by decide) dL_law_735 ?_
    refine aw_iaddz (z := nI (i + 1)) (nI_add i 1) dL_law_736 ?_
    refine aw_sld (v := xs (i + 1)) rfl (nI_in (by omega) (by omega)) (by rw [nI_clamp (by omega)]) dL_law_737 ?_
    refine aw_0V (As := [.int (xs (i + 1))]) (S := []) (v := some (.int v)) (o2 := o2) h8 (mm_fit_of cbX8_tick (Nat.le_of_ble_eq_true rfl) (Nat.le_of_ble_eq_true rfl)) wq1057 cvX8_tick wv14 rfl rfl rfl (Nat.le_of_ble_eq_true rfl) rfl rfl hcc hcs rfl dL_law_738 ?_
    refine aw_istore (L2 := [some (.ref b), some (.ref (ad 7 0 0)), some (.ref (ad 14 0 0)), some (.ref (ad 16 0 0)), some (.int (nI i)), some (.int 0), some (.int v)]) (Nat.le_of_ble_eq_true rfl) rfl rfl dL_law_741 ?_
    refine aw_aload_n (x := ad 14 0 0) rfl dL_law_743 ?_
    refine aw_0V (As := []) (S := []) (v := some (.int 0)) (o2 := o2) (thr_of h12) (mm_fit_of cbX8_thrown (Nat.le_of_ble_eq_true rfl) (Nat.le_of_ble_eq_true rfl)) wq914 cvX8_thrown wv14 rfl rfl rfl (Nat.le_of_ble_eq_true rfl) rfl rfl hcc hcs rfl dL_law_744 ?_
    refine aw_iload (x := 0) rfl dL_law_747 ?_
    refine aw_icmp_eq (tgt := 754) (by decide) dL_law_749 (fun _ => ?_) (fun z => absurd rfl z)
    refine aw_iload (x := 0) rfl dL_law_754 ?_
    refine aw_if_ne (tgt := 771) (by decide) dL_law_756 (fun z => absurd rfl z) (fun _ => ?_)
    refine aw_aload_n (x := ad 16 0 0) rfl dL_law_759 ?_
    refine aw_iconst (v := 0) (by decide) dL_law_760 ?_
    refine aw_lld rfl dL_law_761 ?_
    refine aw_iload (x := v) rfl dL_law_762 ?_
    refine aw_i2l dL_law_764 ?_
    refine aw_lcmp dL_law_765 ?_
    refine aw_if_eq (tgt := 771) (by decide) dL_law_766 (fun _ => ?_) (fun z => absurd hcmp z)
    refine aw_goto (tgt := 1946) (by decide) dL_law_771 ?_
    exact AW.locs (K o2 n2 m2 c2 R2) (lsub_keep (lsub_keep (lsub_keep (lsub_keep (lsub_keep (lsub_none (lsub_none lsub_nil)))))))
  · simp only [List.mem_cons, Prod.mk.injEq, List.not_mem_nil, or_false] at hE
    obtain ⟨rfl, rfl⟩ := hE
    refine aw_aload_n (x := ad 7 0 0) rfl dL_law_718 ?_
    refine aw_aload_n (x := b) rfl dL_law_719 ?_
    refine aw_iload (x := (nI i)) rfl dL_law_720 ?_
    refine aw_iconst (v := 1) (by decide) dL_law_722 ?_
    refine aw_iaddz (z := nI (i + 1)) (nI_add i 1) dL_law_723 ?_
    refine aw_sld (v := xs (i + 1)) rfl (nI_in (by omega) (by omega)) (by rw [nI_clamp (by omega)]) dL_law_724 ?_
    refine aw_aload_n (x := ad 16 0 0) rfl dL_law_725 ?_
    refine aw_L (As := [.ref (ad 7 0 0), .int (xs (i + 1)), .ref (ad 16 0 0)]) (S := []) (lwx_tick_eA h7) fhL_tick wq642 wq643 rfl rfl (Nat.le_of_ble_eq_true rfl) (by decide) (by decide) hcc hcs dL_law_726 ?_
    refine aw_istore (L2 := [some (.ref b), some (.ref (ad 7 0 0)), some (.ref (ad 14 0 0)), some (.ref (ad 16 0 0)), some (.int (nI i)), some (.int 1), none]) (Nat.le_of_ble_eq_true rfl) rfl rfl dL_law_729 ?_
    refine aw_aload_n (x := ad 14 0 0) rfl dL_law_731 ?_
    refine aw_aload_n (x := b) rfl dL_law_732 ?_
    refine aw_iload (x := (nI i)) rfl dL_law_733 ?_
    refine aw_iconst (v := 1) (by decide) dL_law_735 ?_
    refine aw_iaddz (z := nI (i + 1)) (nI_add i 1) dL_law_736 ?_
    refine aw_sld (v := xs (i + 1)) rfl (nI_in (by omega) (by omega)) (by rw [nI_clamp (by omega)]) dL_law_737 ?_
    refine aw_0V (As := [.int (xs (i + 1))]) (S := []) (v := some (.int 0)) (o2 := (wd_w o 12 1 1)) h8 (mm_fit_of cbX8_tick (Nat.le_of_ble_eq_true rfl) (Nat.le_of_ble_eq_true rfl)) wq1057 cvX8_tick wv14 rfl rfl rfl (Nat.le_of_ble_eq_true rfl) rfl rfl hcc hcs rfl dL_law_738 ?_
    refine aw_istore (L2 := [some (.ref b), some (.ref (ad 7 0 0)), some (.ref (ad 14 0 0)), some (.ref (ad 16 0 0)), some (.int (nI i)), some (.int 1), some (.int 0)]) (Nat.le_of_ble_eq_true rfl) rfl rfl dL_law_741 ?_
    refine aw_aload_n (x := ad 14 0 0) rfl dL_law_743 ?_
    refine aw_0V (As := []) (S := []) (v := some (.int 1)) (o2 := (wd_w o 12 1 1)) (thr_of (by rw [wd_get, if_pos ⟨rfl, rfl⟩])) (mm_fit_of cbX8_thrown (Nat.le_of_ble_eq_true rfl) (Nat.le_of_ble_eq_true rfl)) wq914 cvX8_thrown wv14 rfl rfl rfl (Nat.le_of_ble_eq_true rfl) rfl rfl hcc hcs rfl dL_law_744 ?_
    refine aw_iload (x := 1) rfl dL_law_747 ?_
    refine aw_icmp_eq (tgt := 754) (by decide) dL_law_749 (fun _ => ?_) (fun z => absurd rfl z)
    refine aw_iload (x := 1) rfl dL_law_754 ?_
    refine aw_if_ne (tgt := 771) (by decide) dL_law_756 (fun _ => ?_) (fun z => absurd z (by decide))
    refine aw_goto (tgt := 1946) (by decide) dL_law_771 ?_
    exact AW.locs (K _ n m c (R.w 1)) (lsub_keep (lsub_keep (lsub_keep (lsub_keep (lsub_keep (lsub_none (lsub_none lsub_nil)))))))
theorem bk_11 {ad : Nat → Nat → Nat → Nat} {o : wd_S} {n m c b L i : Nat} {xs : Nat → Int32} {cc cs : Nat} {F : (Option Value ⊕ String) → wd_S → Prop} (hL : L ≤ 2048) (hi : i + 4 ≤ L) (R : Rel o n m c) (hcc : cc + 2 ≤ (mm_mo (ML_law b L xs)).cells) (hcs : cs + 12 ≤ (mm_mo (ML_law b L xs)).slots) (K : ∀ o2 n m c, Rel o2 n m c → AW ad (ML_law b L xs) 1946 [some (.ref b), some (.ref (ad 7 0 0)), some (.ref (ad 14 0 0)), some (.ref (ad 16 0 0)), some (.int (nI i)), none, none] [] o2 (cc + 2) (cs + 12) F) : AW ad (ML_law b L xs) 774 [some (.ref b), some (.ref (ad 7 0 0)), some (.ref (ad 14 0 0)), some (.ref (ad 16 0 0)), some (.int (nI i)), none, none] [] o cc cs F := by
  rcases sp_limit (ad := ad) R (x := xs (i + 1)) with ⟨v, o1, o2, h7, h8, hP, h12, hj, n2, m2, c2, R2⟩ | ⟨E, k, hE, h7, h8⟩
  · have hcmp : lg_cmp (o2.2.2 1) v.toInt64 = 0 := by rw [hj]; exact cmp_self _
    refine aw_aload_n (x := ad 7 0 0) rfl dL_law_774 ?_
    refine aw_aload_n (x := b) rfl dL_law_775 ?_
    refine aw_iload (x := (nI i)) rfl dL_law_776 ?_
    refine aw_iconst (v := 1) (by decide) dL_law_778 ?_
    refine aw_iaddz (z := nI (i + 1)) (nI_add i 1) dL_law_779 ?_
    refine aw_sld (v := xs (i + 1)) rfl (nI_in (by omega) (by omega)) (by rw [nI_clamp (by omega)]) dL_law_780 ?_
    refine aw_aload_n (x := ad 16 0 0) rfl dL_law_781 ?_
    refine aw_L (As := [.ref (ad 7 0 0), .int (xs (i + 1)), .ref (ad 16 0 0)]) (S := []) (lwv_setLimit h7) fhL_setLimit wq678 wq679 rfl rfl (Nat.le_of_ble_eq_true rfl) (by decide) (by decide) hcc hcs dL_law_782 ?_
    refine aw_istore (L2 := [some (.ref b), some (.ref (ad 7 0 0)), some (.ref (ad 14 0 0)), some (.ref (ad 16 0 0)), some (.int (nI i)), some (.int 0), none]) (Nat.le_of_ble_eq_true rfl) rfl rfl dL_law_785 ?_
    refine aw_aload_n (x := ad 14 0 0) rfl dL_law_787 ?_
    refine aw_aload_n (x := b) rfl dL_law_788 ?_
    refine aw_iload (x := (nI i)) rfl dL_law_789 ?_
    refine aw_iconst (v := 1) (by decide) dL_law_791 ?_
    refine aw_iaddz (z := nI (i + 1)) (nI_add i 1) dL_law_792 ?_
    refine aw_sld (v := xs (i + 1)) rfl (nI_in (by omega) (by omega)) (by rw [nI_clamp (by omega)]) dL_law_793 ?_
    refine aw_0V (As := [.int (xs (i + 1))]) (S := []) (v := some (.int v)) (o2 := o2) h8 (mm_fit_of cbX8_setLimit (Nat.le_of_ble_eq_true rfl) (Nat.le_of_ble_eq_true rfl)) wq1082 cvX8_setLimit wv14 rfl rfl rfl (Nat.le_of_ble_eq_true rfl) rfl rfl hcc hcs rfl dL_law_794 ?_
    refine aw_istore (L2 := [some (.ref b), some (.ref (ad 7 0 0)), some (.ref (ad 14 0 0)), some (.ref (ad 16 0 0)), some (.int (nI i)), some (.int 0), some (.int v)]) (Nat.le_of_ble_eq_true rfl) rfl rfl dL_law_797 ?_
    refine aw_aload_n (x := ad 14 0 0) rfl dL_law_799 ?_
    refine aw_0V (As := []) (S := []) (v := some (.int 0)) (o2 := o2) (thr_of h12) (mm_fit_of cbX8_thrown (Nat.le_of_ble_eq_true rfl) (Nat.le_of_ble_eq_true rfl)) wq914 cvX8_thrown wv14 rfl rfl rfl (Nat.le_of_ble_eq_true rfl) rfl rfl hcc hcs rfl dL_law_800 ?_
    refine aw_iload (x := 0) rfl dL_law_803 ?_
    refine aw_icmp_eq (tgt := 810) (by decide) dL_law_805 (fun _ => ?_) (fun z => absurd rfl z)
    refine aw_iload (x := 0) rfl dL_law_810 ?_
    refine aw_if_ne (tgt := 827) (by decide) dL_law_812 (fun z => absurd rfl z) (fun _ => ?_)
    refine aw_aload_n (x := ad 16 0 0) rfl dL_law_815 ?_
    refine aw_iconst (v := 0) (by decide) dL_law_816 ?_
    refine aw_lld rfl dL_law_817 ?_
    refine aw_iload (x := v) rfl dL_law_818 ?_
    refine aw_i2l dL_law_820 ?_
    refine aw_lcmp dL_law_821 ?_
    refine aw_if_eq (tgt := 827) (by decide) dL_law_822 (fun _ => ?_) (fun z => absurd hcmp z)
    refine aw_goto (tgt := 1946) (by decide) dL_law_827 ?_
    exact AW.locs (K o2 n2 m2 c2 R2) (lsub_keep (lsub_keep (lsub_keep (lsub_keep (lsub_keep (lsub_none (lsub_none lsub_nil)))))))
  · simp only [List.mem_cons, Prod.mk.injEq, List.not_mem_nil, or_false] at hE
    obtain ⟨rfl, rfl⟩ := hE
    refine aw_aload_n (x := ad 7 0 0) rfl dL_law_774 ?_
    refine aw_aload_n (x := b) rfl dL_law_775 ?_
    refine aw_iload (x := (nI i)) rfl dL_law_776 ?_
    refine aw_iconst (v := 1) (by decide) dL_law_778 ?_
    refine aw_iaddz (z := nI (i + 1)) (nI_add i 1) dL_law_779 ?_
    refine aw_sld (v := xs (i + 1)) rfl (nI_in (by omega) (by omega)) (by rw [nI_clamp (by omega)]) dL_law_780 ?_
    refine aw_aload_n (x := ad 16 0 0) rfl dL_law_781 ?_
    refine aw_L (As := [.ref (ad 7 0 0), .int (xs (i + 1)), .ref (ad 16 0 0)]) (S := []) (lwx_setLimit_eA h7) fhL_setLimit wq678 wq679 rfl rfl (Nat.le_of_ble_eq_true rfl) (by decide) (by decide) hcc hcs dL_law_782 ?_
    refine aw_istore (L2 := [some (.ref b), some (.ref (ad 7 0 0)), some (.ref (ad 14 0 0)), some (.ref (ad 16 0 0)), some (.int (nI i)), some (.int 1), none]) (Nat.le_of_ble_eq_true rfl) rfl rfl dL_law_785 ?_
    refine aw_aload_n (x := ad 14 0 0) rfl dL_law_787 ?_
    refine aw_aload_n (x := b) rfl dL_law_788 ?_
    refine aw_iload (x := (nI i)) rfl dL_law_789 ?_
    refine aw_iconst (v := 1) (by decide) dL_law_791 ?_
    refine aw_iaddz (z := nI (i + 1)) (nI_add i 1) dL_law_792 ?_
    refine aw_sld (v := xs (i + 1)) rfl (nI_in (by omega) (by omega)) (by rw [nI_clamp (by omega)]) dL_law_793 ?_
    refine aw_0V (As := [.int (xs (i + 1))]) (S := []) (v := some (.int 0)) (o2 := (wd_w o 12 1 1)) h8 (mm_fit_of cbX8_setLimit (Nat.le_of_ble_eq_true rfl) (Nat.le_of_ble_eq_true rfl)) wq1082 cvX8_setLimit wv14 rfl rfl rfl (Nat.le_of_ble_eq_true rfl) rfl rfl hcc hcs rfl dL_law_794 ?_
    refine aw_istore (L2 := [some (.ref b), some (.ref (ad 7 0 0)), some (.ref (ad 14 0 0)), some (.ref (ad 16 0 0)), some (.int (nI i)), some (.int 1), some (.int 0)]) (Nat.le_of_ble_eq_true rfl) rfl rfl dL_law_797 ?_
    refine aw_aload_n (x := ad 14 0 0) rfl dL_law_799 ?_
    refine aw_0V (As := []) (S := []) (v := some (.int 1)) (o2 := (wd_w o 12 1 1)) (thr_of (by rw [wd_get, if_pos ⟨rfl, rfl⟩])) (mm_fit_of cbX8_thrown (Nat.le_of_ble_eq_true rfl) (Nat.le_of_ble_eq_true rfl)) wq914 cvX8_thrown wv14 rfl rfl rfl (Nat.le_of_ble_eq_true rfl) rfl rfl hcc hcs rfl dL_law_800 ?_
    refine aw_iload (x := 1) rfl dL_law_803 ?_
    refine aw_icmp_eq (tgt := 810) (by decide) dL_law_805 (fun _ => ?_) (fun z => absurd rfl z)
    refine aw_iload (x := 1) rfl dL_law_810 ?_
    refine aw_if_ne (tgt := 827) (by decide) dL_law_812 (fun _ => ?_) (fun z => absurd z (by decide))
    refine aw_goto (tgt := 1946) (by decide) dL_law_827 ?_
    exact AW.locs (K _ n m c (R.w 1)) (lsub_keep (lsub_keep (lsub_keep (lsub_keep (lsub_keep (lsub_none (lsub_none lsub_nil)))))))
theorem bk_12 {ad : Nat → Nat → Nat → Nat} {o : wd_S} {n m c b L i : Nat} {xs : Nat → Int32} {cc cs : Nat} {F : (Option Value ⊕ String) → wd_S → Prop} (hL : L ≤ 2048) (hi : i + 4 ≤ L) (R : Rel o n m c) (hcc : cc + 2 ≤ (mm_mo (ML_law b L xs)).cells) (hcs : cs + 12 ≤ (mm_mo (ML_law b L xs)).slots) (K : ∀ o2 n m c, Rel o2 n m c → AW ad (ML_law b L xs) 1946 [some (.ref b), some (.ref (ad 7 0 0)), some (.ref (ad 14 0 0)), some (.ref (ad 16 0 0)), some (.int (nI i)), none, none] [] o2 (cc + 2) (cs + 12) F) : AW ad (ML_law b L xs) 830 [some (.ref b), some (.ref (ad 7 0 0)), some (.ref (ad 14 0 0)), some (.ref (ad 16 0 0)), some (.int (nI i)), none, none] [] o cc cs F := by
  rcases sp_rings (ad := ad) R (x := xs (i + 1)) with ⟨v, o1, o2, h7, h8, hP, h12, hj, n2, m2, c2, R2⟩ | ⟨E, k, hE, h7, h8⟩
  · have hcmp : lg_cmp (o2.2.2 1) v.toInt64 = 0 := by rw [hj]; exact cmp_self _
    refine aw_aload_n (x := ad 7 0 0) rfl dL_law_830 ?_
    refine aw_aload_n (x := b) rfl dL_law_831 ?_
    refine aw_iload (x := (nI i)) rfl dL_law_832 ?_
    refine aw_iconst (v := 1) (by decide) dL_law_834 ?_
    refine aw_iaddz (z := nI (i + 1)) (nI_add i 1) dL_law_835 ?_
    refine aw_sld (v := xs (i + 1)) rfl (nI_in (by omega) (by omega)) (by rw [nI_clamp (by omega)]) dL_law_836 ?_
    refine aw_aload_n (x := ad 16 0 0) rfl dL_law_837 ?_
    refine aw_L (As := [.ref (ad 7 0 0), .int (xs (i + 1)), .ref (ad 16 0 0)]) (S := []) (lwv_rings h7) fhL_rings wq686 wq687 rfl rfl (Nat.le_of_ble_eq_true rfl) (by decide) (by decide) hcc hcs dL_law_838 ?_
    refine aw_istore (L2 := [some (.ref b), some (.ref (ad 7 0 0)), some (.ref (ad 14 0 0)), some (.ref (ad 16 0 0)), some (.int (nI i)), some (.int 0), none]) (Nat.le_of_ble_eq_true rfl) rfl rfl dL_law_841 ?_
    refine aw_aload_n (x := ad 14 0 0) rfl dL_law_843 ?_
    refine aw_aload_n (x := b) rfl dL_law_844 ?_
    refine aw_iload (x := (nI i)) rfl dL_law_845 ?_
    refine aw_iconst (v := 1) (by decide) dL_law_847 ?_
    refine aw_iaddz (z := nI (i + 1)) (nI_add i 1) dL_law_848 ?_
    refine aw_sld (v := xs (i + 1)) rfl (nI_in (by omega) (by omega)) (by rw [nI_clamp (by omega)]) dL_law_849 ?_
    refine aw_0V (As := [.int (xs (i + 1))]) (S := []) (v := some (.int v)) (o2 := o2) h8 (mm_fit_of cbX8_rings (Nat.le_of_ble_eq_true rfl) (Nat.le_of_ble_eq_true rfl)) wq1090 cvX8_rings wv14 rfl rfl rfl (Nat.le_of_ble_eq_true rfl) rfl rfl hcc hcs rfl dL_law_850 ?_
    refine aw_istore (L2 := [some (.ref b), some (.ref (ad 7 0 0)), some (.ref (ad 14 0 0)), some (.ref (ad 16 0 0)), some (.int (nI i)), some (.int 0), some (.int v)]) (Nat.le_of_ble_eq_true rfl) rfl rfl dL_law_853 ?_
    refine aw_aload_n (x := ad 14 0 0) rfl dL_law_855 ?_
    refine aw_0V (As := []) (S := []) (v := some (.int 0)) (o2 := o2) (thr_of h12) (mm_fit_of cbX8_thrown (Nat.le_of_ble_eq_true rfl) (Nat.le_of_ble_eq_true rfl)) wq914 cvX8_thrown wv14 rfl rfl rfl (Nat.le_of_ble_eq_true rfl) rfl rfl hcc hcs rfl dL_law_856 ?_
    refine aw_iload (x := 0) rfl dL_law_859 ?_
    refine aw_icmp_eq (tgt := 866) (by decide) dL_law_861 (fun _ => ?_) (fun z => absurd rfl z)
    refine aw_iload (x := 0) rfl dL_law_866 ?_
    refine aw_if_ne (tgt := 883) (by decide) dL_law_868 (fun z => absurd rfl z) (fun _ => ?_)
    refine aw_aload_n (x := ad 16 0 0) rfl dL_law_871 ?_
    refine aw_iconst (v := 0) (by decide) dL_law_872 ?_
    refine aw_lld rfl dL_law_873 ?_
    refine aw_iload (x := v) rfl dL_law_874 ?_
    refine aw_i2l dL_law_876 ?_
    refine aw_lcmp dL_law_877 ?_
    refine aw_if_eq (tgt := 883) (by decide) dL_law_878 (fun _ => ?_) (fun z => absurd hcmp z)
    refine aw_goto (tgt := 1946) (by decide) dL_law_883 ?_
    exact AW.locs (K o2 n2 m2 c2 R2) (lsub_keep (lsub_keep (lsub_keep (lsub_keep (lsub_keep (lsub_none (lsub_none lsub_nil)))))))
  · simp only [List.mem_cons, Prod.mk.injEq, List.not_mem_nil, or_false] at hE
    obtain ⟨rfl, rfl⟩ := hE
    refine aw_aload_n (x := ad 7 0 0) rfl dL_law_830 ?_
    refine aw_aload_n (x := b) rfl dL_law_831 ?_
    refine aw_iload (x := (nI i)) rfl dL_law_832 ?_
    refine aw_iconst (v := 1) (by decide) dL_law_834 ?_
    refine aw_iaddz (z := nI (i + 1)) (nI_add i 1) dL_law_835 ?_
    refine aw_sld (v := xs (i + 1)) rfl (nI_in (by omega) (by omega)) (by rw [nI_clamp (by omega)]) dL_law_836 ?_
    refine aw_aload_n (x := ad 16 0 0) rfl dL_law_837 ?_
    refine aw_L (As := [.ref (ad 7 0 0), .int (xs (i + 1)), .ref (ad 16 0 0)]) (S := []) (lwx_rings_eI h7) fhL_rings wq686 wq687 rfl rfl (Nat.le_of_ble_eq_true rfl) (by decide) (by decide) hcc hcs dL_law_838 ?_
    refine aw_istore (L2 := [some (.ref b), some (.ref (ad 7 0 0)), some (.ref (ad 14 0 0)), some (.ref (ad 16 0 0)), some (.int (nI i)), some (.int 1), none]) (Nat.le_of_ble_eq_true rfl) rfl rfl dL_law_841 ?_
    refine aw_aload_n (x := ad 14 0 0) rfl dL_law_843 ?_
    refine aw_aload_n (x := b) rfl dL_law_844 ?_
    refine aw_iload (x := (nI i)) rfl dL_law_845 ?_
    refine aw_iconst (v := 1) (by decide) dL_law_847 ?_
    refine aw_iaddz (z := nI (i + 1)) (nI_add i 1) dL_law_848 ?_
    refine aw_sld (v := xs (i + 1)) rfl (nI_in (by omega) (by omega)) (by rw [nI_clamp (by omega)]) dL_law_849 ?_
    refine aw_0V (As := [.int (xs (i + 1))]) (S := []) (v := some (.int 0)) (o2 := (wd_w o 12 1 1)) h8 (mm_fit_of cbX8_rings (Nat.le_of_ble_eq_true rfl) (Nat.le_of_ble_eq_true rfl)) wq1090 cvX8_rings wv14 rfl rfl rfl (Nat.le_of_ble_eq_true rfl) rfl rfl hcc hcs rfl dL_law_850 ?_
    refine aw_istore (L2 := [some (.ref b), some (.ref (ad 7 0 0)), some (.ref (ad 14 0 0)), some (.ref (ad 16 0 0)), some (.int (nI i)), some (.int 1), some (.int 0)]) (Nat.le_of_ble_eq_true rfl) rfl rfl dL_law_853 ?_
    refine aw_aload_n (x := ad 14 0 0) rfl dL_law_855 ?_
    refine aw_0V (As := []) (S := []) (v := some (.int 1)) (o2 := (wd_w o 12 1 1)) (thr_of (by rw [wd_get, if_pos ⟨rfl, rfl⟩])) (mm_fit_of cbX8_thrown (Nat.le_of_ble_eq_true rfl) (Nat.le_of_ble_eq_true rfl)) wq914 cvX8_thrown wv14 rfl rfl rfl (Nat.le_of_ble_eq_true rfl) rfl rfl hcc hcs rfl dL_law_856 ?_
    refine aw_iload (x := 1) rfl dL_law_859 ?_
    refine aw_icmp_eq (tgt := 866) (by decide) dL_law_861 (fun _ => ?_) (fun z => absurd rfl z)
    refine aw_iload (x := 1) rfl dL_law_866 ?_
    refine aw_if_ne (tgt := 883) (by decide) dL_law_868 (fun _ => ?_) (fun z => absurd z (by decide))
    refine aw_goto (tgt := 1946) (by decide) dL_law_883 ?_
    exact AW.locs (K _ n m c (R.w 1)) (lsub_keep (lsub_keep (lsub_keep (lsub_keep (lsub_keep (lsub_none (lsub_none lsub_nil)))))))
theorem bk_13 {ad : Nat → Nat → Nat → Nat} {o : wd_S} {n m c b L i : Nat} {xs : Nat → Int32} {cc cs : Nat} {F : (Option Value ⊕ String) → wd_S → Prop} (hL : L ≤ 2048) (hi : i + 4 ≤ L) (R : Rel o n m c) (hcc : cc + 2 ≤ (mm_mo (ML_law b L xs)).cells) (hcs : cs + 12 ≤ (mm_mo (ML_law b L xs)).slots) (K : ∀ o2 n m c, Rel o2 n m c → AW ad (ML_law b L xs) 1946 [some (.ref b), some (.ref (ad 7 0 0)), some (.ref (ad 14 0 0)), some (.ref (ad 16 0 0)), some (.int (nI i)), none, none] [] o2 (cc + 2) (cs + 12) F) : AW ad (ML_law b L xs) 886 [some (.ref b), some (.ref (ad 7 0 0)), some (.ref (ad 14 0 0)), some (.ref (ad 16 0 0)), some (.int (nI i)), none, none] [] o cc cs F := by
  rcases sp_would (ad := ad) R (x := xs (i + 1)) (y := xs (i + 2)) with ⟨v, o1, o2, h7, h8, hP, h12, hj, n2, m2, c2, R2⟩ | ⟨E, k, hE, h7, h8⟩
  · have hcmp : lg_cmp (o2.2.2 1) v.toInt64 = 0 := by rw [hj]; exact cmp_self _
    refine aw_aload_n (x := ad 7 0 0) rfl dL_law_886 ?_
    refine aw_aload_n (x := b) rfl dL_law_887 ?_
    refine aw_iload (x := (nI i)) rfl dL_law_888 ?_
    refine aw_iconst (v := 1) (by decide) dL_law_890 ?_
    refine aw_iaddz (z := nI (i + 1)) (nI_add i 1) dL_law_891 ?_
    refine aw_sld (v := xs (i + 1)) rfl (nI_in (by omega) (by omega)) (by rw [nI_clamp (by omega)]) dL_law_892 ?_
    refine aw_aload_n (x := b) rfl dL_law_893 ?_
    refine aw_iload (x := (nI i)) rfl dL_law_894 ?_
    refine aw_iconst (v := 2) (by decide) dL_law_896 ?_
    refine aw_iaddz (z := nI (i + 2)) (nI_add i 2) dL_law_897 ?_
    refine aw_sld (v := xs (i + 2)) rfl (nI_in (by omega) (by omega)) (by rw [nI_clamp (by omega)]) dL_law_898 ?_
    refine aw_aload_n (x := ad 16 0 0) rfl dL_law_899 ?_
    refine aw_L (As := [.ref (ad 7 0 0), .int (xs (i + 1)), .int (xs (i + 2)), .ref (ad 16 0 0)]) (S := []) (lwv_wouldDial h7) fhL_wouldDial wq693 wq694 rfl rfl (Nat.le_of_ble_eq_true rfl) (by decide) (by decide) hcc hcs dL_law_900 ?_
    refine aw_istore (L2 := [some (.ref b), some (.ref (ad 7 0 0)), some (.ref (ad 14 0 0)), some (.ref (ad 16 0 0)), some (.int (nI i)), some (.int 0), none]) (Nat.le_of_ble_eq_true rfl) rfl rfl dL_law_903 ?_
    refine aw_aload_n (x := ad 14 0 0) rfl dL_law_905 ?_
    refine aw_aload_n (x := b) rfl dL_law_906 ?_
    refine aw_iload (x := (nI i)) rfl dL_law_907 ?_
    refine aw_iconst (v := 1) (by decide) dL_law_909 ?_
    refine aw_iaddz (z := nI (i + 1)) (nI_add i 1) dL_law_910 ?_
    refine aw_sld (v := xs (i + 1)) rfl (nI_in (by omega) (by omega)) (by rw [nI_clamp (by omega)]) dL_law_911 ?_
    refine aw_aload_n (x := b) rfl dL_law_912 ?_
    refine aw_iload (x := (nI i)) rfl dL_law_913 ?_
    refine aw_iconst (v := 2) (by decide) dL_law_915 ?_
    refine aw_iaddz (z := nI (i + 2)) (nI_add i 2) dL_law_916 ?_
    refine aw_sld (v := xs (i + 2)) rfl (nI_in (by omega) (by omega)) (by rw [nI_clamp (by omega)]) dL_law_917 ?_
    refine aw_0V (As := [.int (xs (i + 1)), .int (xs (i + 2))]) (S := []) (v := some (.int v)) (o2 := o2) h8 (mm_fit_of cbX8_wouldDial (Nat.le_of_ble_eq_true rfl) (Nat.le_of_ble_eq_true rfl)) wq1049 cvX8_wouldDial wv14 rfl rfl rfl (Nat.le_of_ble_eq_true rfl) rfl rfl hcc hcs rfl dL_law_918 ?_
    refine aw_istore (L2 := [some (.ref b), some (.ref (ad 7 0 0)), some (.ref (ad 14 0 0)), some (.ref (ad 16 0 0)), some (.int (nI i)), some (.int 0), some (.int v)]) (Nat.le_of_ble_eq_true rfl) rfl rfl dL_law_921 ?_
    refine aw_aload_n (x := ad 14 0 0) rfl dL_law_923 ?_
    refine aw_0V (As := []) (S := []) (v := some (.int 0)) (o2 := o2) (thr_of h12) (mm_fit_of cbX8_thrown (Nat.le_of_ble_eq_true rfl) (Nat.le_of_ble_eq_true rfl)) wq914 cvX8_thrown wv14 rfl rfl rfl (Nat.le_of_ble_eq_true rfl) rfl rfl hcc hcs rfl dL_law_924 ?_
    refine aw_iload (x := 0) rfl dL_law_927 ?_
    refine aw_icmp_eq (tgt := 934) (by decide) dL_law_929 (fun _ => ?_) (fun z => absurd rfl z)
    refine aw_iload (x := 0) rfl dL_law_934 ?_
    refine aw_if_ne (tgt := 951) (by decide) dL_law_936 (fun z => absurd rfl z) (fun _ => ?_)
    refine aw_aload_n (x := ad 16 0 0) rfl dL_law_939 ?_
    refine aw_iconst (v := 0) (by decide) dL_law_940 ?_
    refine aw_lld rfl dL_law_941 ?_
    refine aw_iload (x := v) rfl dL_law_942 ?_
    refine aw_i2l dL_law_944 ?_
    refine aw_lcmp dL_law_945 ?_
    refine aw_if_eq (tgt := 951) (by decide) dL_law_946 (fun _ => ?_) (fun z => absurd hcmp z)
    refine aw_goto (tgt := 1946) (by decide) dL_law_951 ?_
    exact AW.locs (K o2 n2 m2 c2 R2) (lsub_keep (lsub_keep (lsub_keep (lsub_keep (lsub_keep (lsub_none (lsub_none lsub_nil)))))))
  · simp only [List.mem_cons, Prod.mk.injEq, List.not_mem_nil, or_false] at hE
    obtain ⟨rfl, rfl⟩ := hE
    refine aw_aload_n (x := ad 7 0 0) rfl dL_law_886 ?_
    refine aw_aload_n (x := b) rfl dL_law_887 ?_
    refine aw_iload (x := (nI i)) rfl dL_law_888 ?_
    refine aw_iconst (v := 1) (by decide) dL_law_890 ?_
    refine aw_iaddz (z := nI (i + 1)) (nI_add i 1) dL_law_891 ?_
    refine aw_sld (v := xs (i + 1)) rfl (nI_in (by omega) (by omega)) (by rw [nI_clamp (by omega)]) dL_law_892 ?_
    refine aw_aload_n (x := b) rfl dL_law_893 ?_
    refine aw_iload (x := (nI i)) rfl dL_law_894 ?_
    refine aw_iconst (v := 2) (by decide) dL_law_896 ?_
    refine aw_iaddz (z := nI (i + 2)) (nI_add i 2) dL_law_897 ?_
    refine aw_sld (v := xs (i + 2)) rfl (nI_in (by omega) (by omega)) (by rw [nI_clamp (by omega)]) dL_law_898 ?_
    refine aw_aload_n (x := ad 16 0 0) rfl dL_law_899 ?_
    refine aw_L (As := [.ref (ad 7 0 0), .int (xs (i + 1)), .int (xs (i + 2)), .ref (ad 16 0 0)]) (S := []) (lwx_wouldDial_eI h7) fhL_wouldDial wq693 wq694 rfl rfl (Nat.le_of_ble_eq_true rfl) (by decide) (by decide) hcc hcs dL_law_900 ?_
    refine aw_istore (L2 := [some (.ref b), some (.ref (ad 7 0 0)), some (.ref (ad 14 0 0)), some (.ref (ad 16 0 0)), some (.int (nI i)), some (.int 1), none]) (Nat.le_of_ble_eq_true rfl) rfl rfl dL_law_903 ?_
    refine aw_aload_n (x := ad 14 0 0) rfl dL_law_905 ?_
    refine aw_aload_n (x := b) rfl dL_law_906 ?_
    refine aw_iload (x := (nI i)) rfl dL_law_907 ?_
    refine aw_iconst (v := 1) (by decide) dL_law_909 ?_
    refine aw_iaddz (z := nI (i + 1)) (nI_add i 1) dL_law_910 ?_
    refine aw_sld (v := xs (i + 1)) rfl (nI_in (by omega) (by omega)) (by rw [nI_clamp (by omega)]) dL_law_911 ?_
    refine aw_aload_n (x := b) rfl dL_law_912 ?_
    refine aw_iload (x := (nI i)) rfl dL_law_913 ?_
    refine aw_iconst (v := 2) (by decide) dL_law_915 ?_
    refine aw_iaddz (z := nI (i + 2)) (nI_add i 2) dL_law_916 ?_
    refine aw_sld (v := xs (i + 2)) rfl (nI_in (by omega) (by omega)) (by rw [nI_clamp (by omega)]) dL_law_917 ?_
    refine aw_0V (As := [.int (xs (i + 1)), .int (xs (i + 2))]) (S := []) (v := some (.int 0)) (o2 := (wd_w o 12 1 1)) h8 (mm_fit_of cbX8_wouldDial (Nat.le_of_ble_eq_true rfl) (Nat.le_of_ble_eq_true rfl)) wq1049 cvX8_wouldDial wv14 rfl rfl rfl (Nat.le_of_ble_eq_true rfl) rfl rfl hcc hcs rfl dL_law_918 ?_
    refine aw_istore (L2 := [some (.ref b), some (.ref (ad 7 0 0)), some (.ref (ad 14 0 0)), some (.ref (ad 16 0 0)), some (.int (nI i)), some (.int 1), some (.int 0)]) (Nat.le_of_ble_eq_true rfl) rfl rfl dL_law_921 ?_
    refine aw_aload_n (x := ad 14 0 0) rfl dL_law_923 ?_
    refine aw_0V (As := []) (S := []) (v := some (.int 1)) (o2 := (wd_w o 12 1 1)) (thr_of (by rw [wd_get, if_pos ⟨rfl, rfl⟩])) (mm_fit_of cbX8_thrown (Nat.le_of_ble_eq_true rfl) (Nat.le_of_ble_eq_true rfl)) wq914 cvX8_thrown wv14 rfl rfl rfl (Nat.le_of_ble_eq_true rfl) rfl rfl hcc hcs rfl dL_law_924 ?_
    refine aw_iload (x := 1) rfl dL_law_927 ?_
    refine aw_icmp_eq (tgt := 934) (by decide) dL_law_929 (fun _ => ?_) (fun z => absurd rfl z)
    refine aw_iload (x := 1) rfl dL_law_934 ?_
    refine aw_if_ne (tgt := 951) (by decide) dL_law_936 (fun _ => ?_) (fun z => absurd z (by decide))
    refine aw_goto (tgt := 1946) (by decide) dL_law_951 ?_
    exact AW.locs (K _ n m c (R.w 1)) (lsub_keep (lsub_keep (lsub_keep (lsub_keep (lsub_keep (lsub_none (lsub_none lsub_nil)))))))
theorem bk_14 {ad : Nat → Nat → Nat → Nat} {o : wd_S} {n m c b L i : Nat} {xs : Nat → Int32} {cc cs : Nat} {F : (Option Value ⊕ String) → wd_S → Prop} (hL : L ≤ 2048) (hi : i + 4 ≤ L) (R : Rel o n m c) (hcc : cc + 2 ≤ (mm_mo (ML_law b L xs)).cells) (hcs : cs + 12 ≤ (mm_mo (ML_law b L xs)).slots) (K : ∀ o2 n m c, Rel o2 n m c → AW ad (ML_law b L xs) 1946 [some (.ref b), some (.ref (ad 7 0 0)), some (.ref (ad 14 0 0)), some (.ref (ad 16 0 0)), some (.int (nI i)), none, none] [] o2 (cc + 2) (cs + 12) F) : AW ad (ML_law b L xs) 954 [some (.ref b), some (.ref (ad 7 0 0)), some (.ref (ad 14 0 0)), some (.ref (ad 16 0 0)), some (.int (nI i)), none, none] [] o cc cs F := by
  rcases sp_told (ad := ad) R (x := xs (i + 1)) with ⟨v, o1, o2, h7, h8, hP, h12, hj, n2, m2, c2, R2⟩ | ⟨E, k, hE, h7, h8⟩
  · have hcmp : lg_cmp (o2.2.2 1) v.toInt64 = 0 := by rw [hj]; exact cmp_self _
    refine aw_aload_n (x := ad 7 0 0) rfl dL_law_954 ?_
    refine aw_aload_n (x := b) rfl dL_law_955 ?_
    refine aw_iload (x := (nI i)) rfl dL_law_956 ?_
    refine aw_iconst (v := 1) (by decide) dL_law_958 ?_
    refine aw_iaddz (z := nI (i + 1)) (nI_add i 1) dL_law_959 ?_
    refine aw_sld (v := xs (i + 1)) rfl (nI_in (by omega) (by omega)) (by rw [nI_clamp (by omega)]) dL_law_960 ?_
    refine aw_aload_n (x := ad 16 0 0) rfl dL_law_961 ?_
    refine aw_L (As := [.ref (ad 7 0 0), .int (xs (i + 1)), .ref (ad 16 0 0)]) (S := []) (lwv_told h7) fhL_told wq701 wq702 rfl rfl (Nat.le_of_ble_eq_true rfl) (by decide) (by decide) hcc hcs dL_law_962 ?_
    refine aw_istore (L2 := [some (.ref b), some (.ref (ad 7 0 0)), some (.ref (ad 14 0 0)), some (.ref (ad 16 0 0)), some (.int (nI i)), some (.int 0), none]) (Nat.le_of_ble_eq_true rfl) rfl rfl dL_law_965 ?_
    refine aw_aload_n (x := ad 14 0 0) rfl dL_law_967 ?_
    refine aw_aload_n (x := b) rfl dL_law_968 ?_
    refine aw_iload (x := (nI i)) rfl dL_law_969 ?_
    refine aw_iconst (v := 1) (by decide) dL_law_971 ?_
    refine aw_iaddz (z := nI (i + 1)) (nI_add i 1) dL_law_972 ?_
    refine aw_sld (v := xs (i + 1)) rfl (nI_in (by omega) (by omega)) (by rw [nI_clamp (by omega)]) dL_law_973 ?_
    refine aw_0V (As := [.int (xs (i + 1))]) (S := []) (v := some (.int v)) (o2 := o2) h8 (mm_fit_of cbX8_told_ (Nat.le_of_ble_eq_true rfl) (Nat.le_of_ble_eq_true rfl)) wq1086 cvX8_told_ wv14 rfl rfl rfl (Nat.le_of_ble_eq_true rfl) rfl rfl hcc hcs rfl dL_law_974 ?_
    refine aw_istore (L2 := [some (.ref b), some (.ref (ad 7 0 0)), some (.ref (ad 14 0 0)), some (.ref (ad 16 0 0)), some (.int (nI i)), some (.int 0), some (.int v)]) (Nat.le_of_ble_eq_true rfl) rfl rfl dL_law_977 ?_
    refine aw_aload_n (x := ad 14 0 0) rfl dL_law_979 ?_
    refine aw_0V (As := []) (S := []) (v := some (.int 0)) (o2 := o2) (thr_of h12) (mm_fit_of cbX8_thrown (Nat.le_of_ble_eq_true rfl) (Nat.le_of_ble_eq_true rfl)) wq914 cvX8_thrown wv14 rfl rfl rfl (Nat.le_of_ble_eq_true rfl) rfl rfl hcc hcs rfl dL_law_980 ?_
    refine aw_iload (x := 0) rfl dL_law_983 ?_
    refine aw_icmp_eq (tgt := 990) (by decide) dL_law_985 (fun _ => ?_) (fun z => absurd rfl z)
    refine aw_iload (x := 0) rfl dL_law_990 ?_
    refine aw_if_ne (tgt := 1007) (by decide) dL_law_992 (fun z => absurd rfl z) (fun _ => ?_)
    refine aw_aload_n (x := ad 16 0 0) rfl dL_law_995 ?_
    refine aw_iconst (v := 0) (by decide) dL_law_996 ?_
    refine aw_lld rfl dL_law_997 ?_
    refine aw_iload (x := v) rfl dL_law_998 ?_
    refine aw_i2l dL_law_1000 ?_
    refine aw_lcmp dL_law_1001 ?_
    refine aw_if_eq (tgt := 1007) (by decide) dL_law_1002 (fun _ => ?_) (fun z => absurd hcmp z)
    refine aw_goto (tgt := 1946) (by decide) dL_law_1007 ?_
    exact AW.locs (K o2 n2 m2 c2 R2) (lsub_keep (lsub_keep (lsub_keep (lsub_keep (lsub_keep (lsub_none (lsub_none lsub_nil)))))))
  · simp only [List.mem_cons, Prod.mk.injEq, List.not_mem_nil, or_false] at hE
    obtain ⟨rfl, rfl⟩ := hE
    refine aw_aload_n (x := ad 7 0 0) rfl dL_law_954 ?_
    refine aw_aload_n (x := b) rfl dL_law_955 ?_
    refine aw_iload (x := (nI i)) rfl dL_law_956 ?_
    refine aw_iconst (v := 1) (by decide) dL_law_958 ?_
    refine aw_iaddz (z := nI (i + 1)) (nI_add i 1) dL_law_959 ?_
    refine aw_sld (v := xs (i + 1)) rfl (nI_in (by omega) (by omega)) (by rw [nI_clamp (by omega)]) dL_law_960 ?_
    refine aw_aload_n (x := ad 16 0 0) rfl dL_law_961 ?_
    refine aw_L (As := [.ref (ad 7 0 0), .int (xs (i + 1)), .ref (ad 16 0 0)]) (S := []) (lwx_told_eA h7) fhL_told wq701 wq702 rfl rfl (Nat.le_of_ble_eq_true rfl) (by decide) (by decide) hcc hcs dL_law_962 ?_
    refine aw_istore (L2 := [some (.ref b), some (.ref (ad 7 0 0)), some (.ref (ad 14 0 0)), some (.ref (ad 16 0 0)), some (.int (nI i)), some (.int 1), none]) (Nat.le_of_ble_eq_true rfl) rfl rfl dL_law_965 ?_
    refine aw_aload_n (x := ad 14 0 0) rfl dL_law_967 ?_
    refine aw_aload_n (x := b) rfl dL_law_968 ?_
    refine aw_iload (x := (nI i)) rfl dL_law_969 ?_
    refine aw_iconst (v := 1) (by decide) dL_law_971 ?_
    refine aw_iaddz (z := nI (i + 1)) (nI_add i 1) dL_law_972 ?_
    refine aw_sld (v := xs (i + 1)) rfl (nI_in (by omega) (by omega)) (by rw [nI_clamp (by omega)]) dL_law_973 ?_
    refine aw_0V (As := [.int (xs (i + 1))]) (S := []) (v := some (.int 0)) (o2 := (wd_w o 12 1 1)) h8 (mm_fit_of cbX8_told_ (Nat.le_of_ble_eq_true rfl) (Nat.le_of_ble_eq_true rfl)) wq1086 cvX8_told_ wv14 rfl rfl rfl (Nat.le_of_ble_eq_true rfl) rfl rfl hcc hcs rfl dL_law_974 ?_
    refine aw_istore (L2 := [some (.ref b), some (.ref (ad 7 0 0)), some (.ref (ad 14 0 0)), some (.ref (ad 16 0 0)), some (.int (nI i)), some (.int 1), some (.int 0)]) (Nat.le_of_ble_eq_true rfl) rfl rfl dL_law_977 ?_
    refine aw_aload_n (x := ad 14 0 0) rfl dL_law_979 ?_
    refine aw_0V (As := []) (S := []) (v := some (.int 1)) (o2 := (wd_w o 12 1 1)) (thr_of (by rw [wd_get, if_pos ⟨rfl, rfl⟩])) (mm_fit_of cbX8_thrown (Nat.le_of_ble_eq_true rfl) (Nat.le_of_ble_eq_true rfl)) wq914 cvX8_thrown wv14 rfl rfl rfl (Nat.le_of_ble_eq_true rfl) rfl rfl hcc hcs rfl dL_law_980 ?_
    refine aw_iload (x := 1) rfl dL_law_983 ?_
    refine aw_icmp_eq (tgt := 990) (by decide) dL_law_985 (fun _ => ?_) (fun z => absurd rfl z)
    refine aw_iload (x := 1) rfl dL_law_990 ?_
    refine aw_if_ne (tgt := 1007) (by decide) dL_law_992 (fun _ => ?_) (fun z => absurd z (by decide))
    refine aw_goto (tgt := 1946) (by decide) dL_law_1007 ?_
    exact AW.locs (K _ n m c (R.w 1)) (lsub_keep (lsub_keep (lsub_keep (lsub_keep (lsub_keep (lsub_none (lsub_none lsub_nil)))))))
theorem bk_15 {ad : Nat → Nat → Nat → Nat} {o : wd_S} {n m c b L i : Nat} {xs : Nat → Int32} {cc cs : Nat} {F : (Option Value ⊕ String) → wd_S → Prop} (hL : L ≤ 2048) (hi : i + 4 ≤ L) (R : Rel o n m c) (hcc : cc + 2 ≤ (mm_mo (ML_law b L xs)).cells) (hcs : cs + 12 ≤ (mm_mo (ML_law b L xs)).slots) (K : ∀ o2 n m c, Rel o2 n m c → AW ad (ML_law b L xs) 1946 [some (.ref b), some (.ref (ad 7 0 0)), some (.ref (ad 14 0 0)), some (.ref (ad 16 0 0)), some (.int (nI i)), none, none] [] o2 (cc + 2) (cs + 12) F) : AW ad (ML_law b L xs) 1010 [some (.ref b), some (.ref (ad 7 0 0)), some (.ref (ad 14 0 0)), some (.ref (ad 16 0 0)), some (.int (nI i)), none, none] [] o cc cs F := by
  rcases sp_clen (ad := ad) R (x := xs (i + 1)) with ⟨v, o1, o2, h7, h8, hP, h12, hj, n2, m2, c2, R2⟩ | ⟨E, k, hE, h7, h8⟩
  · have hcmp : lg_cmp (o2.2.2 1) v.toInt64 = 0 := by rw [hj]; exact cmp_self _
    refine aw_aload_n (x := ad 7 0 0) rfl dL_law_1010 ?_
    refine aw_aload_n (x := b) rfl dL_law_1011 ?_
    refine aw_iload (x := (nI i)) rfl dL_law_1012 ?_
    refine aw_iconst (v := 1) (by decide) dL_law_1014 ?_
    refine aw_iaddz (z := nI (i + 1)) (nI_add i 1) dL_law_1015 ?_
    refine aw_sld (v := xs (i + 1)) rfl (nI_in (by omega) (by omega)) (by rw [nI_clamp (by omega)]) dL_law_1016 ?_
    refine aw_aload_n (x := ad 16 0 0) rfl dL_law_1017 ?_
    refine aw_L (As := [.ref (ad 7 0 0), .int (xs (i + 1)), .ref (ad 16 0 0)]) (S := []) (lwv_codeLength h7) fhL_codeLength wq708 wq709 rfl rfl (Nat.le_of_ble_eq_true rfl) (by decide) (by decide) hcc hcs dL_law_1018 ?_
    refine aw_istore (L2 := [some (.ref b), some (.ref (ad 7 0 0)), some (.ref (ad 14 0 0)), some (.ref (ad 16 0 0)), some (.int (nI i)), some (.int 0), none]) (Nat.le_of_ble_eq_true rfl) rfl rfl dL_law_1021 ?_
    refine aw_aload_n (x := ad 14 0 0) rfl dL_law_1023 ?_
    refine aw_aload_n (x := b) rfl dL_law_1024 ?_
    refine aw_iload (x := (nI i)) rfl dL_law_1025 ?_
    refine aw_iconst (v := 1) (by decide) dL_law_1027 ?_
    refine aw_iaddz (z := nI (i + 1)) (nI_add i 1) dL_law_1028 ?_
    refine aw_sld (v := xs (i + 1)) rfl (nI_in (by omega) (by omega)) (by rw [nI_clamp (by omega)]) dL_law_1029 ?_
    refine aw_0V (As := [.int (xs (i + 1))]) (S := []) (v := some (.int v)) (o2 := o2) h8 (mm_fit_of cbX8_codeLength (Nat.le_of_ble_eq_true rfl) (Nat.le_of_ble_eq_true rfl)) wq1101 cvX8_codeLength wv14 rfl rfl rfl (Nat.le_of_ble_eq_true rfl) rfl rfl hcc hcs rfl dL_law_1030 ?_
    refine aw_istore (L2 := [some (.ref b), some (.ref (ad 7 0 0)), some (.ref (ad 14 0 0)), some (.ref (ad 16 0 0)), some (.int (nI i)), some (.int 0), some (.int v)]) (Nat.le_of_ble_eq_true rfl) rfl rfl dL_law_1033 ?_
    refine aw_aload_n (x := ad 14 0 0) rfl dL_law_1035 ?_
    refine aw_0V (As := []) (S := []) (v := some (.int 0)) (o2 := o2) (thr_of h12) (mm_fit_of cbX8_thrown (Nat.le_of_ble_eq_true rfl) (Nat.le_of_ble_eq_true rfl)) wq914 cvX8_thrown wv14 rfl rfl rfl (Nat.le_of_ble_eq_true rfl) rfl rfl hcc hcs rfl dL_law_1036 ?_
    refine aw_iload (x := 0) rfl dL_law_1039 ?_
    refine aw_icmp_eq (tgt := 1046) (by decide) dL_law_1041 (fun _ => ?_) (fun z => absurd rfl z)
    refine aw_iload (x := 0) rfl dL_law_1046 ?_
    refine aw_if_ne (tgt := 1063) (by decide) dL_law_1048 (fun z => absurd rfl z) (fun _ => ?_)
    refine aw_aload_n (x := ad 16 0 0) rfl dL_law_1051 ?_
    refine aw_iconst (v := 0) (by decide) dL_law_1052 ?_
    refine aw_lld rfl dL_law_1053 ?_
    refine aw_iload (x := v) rfl dL_law_1054 ?_
    refine aw_i2l dL_law_1056 ?_
    refine aw_lcmp dL_law_1057 ?_
    refine aw_if_eq (tgt := 1063) (by decide) dL_law_1058 (fun _ => ?_) (fun z => absurd hcmp z)
    refine aw_goto (tgt := 1946) (by decide) dL_law_1063 ?_
    exact AW.locs (K o2 n2 m2 c2 R2) (lsub_keep (lsub_keep (lsub_keep (lsub_keep (lsub_keep (lsub_none (lsub_none lsub_nil)))))))
  · simp only [List.mem_cons, Prod.mk.injEq, List.not_mem_nil, or_false] at hE
    obtain ⟨rfl, rfl⟩ := hE
    refine aw_aload_n (x := ad 7 0 0) rfl dL_law_1010 ?_
    refine aw_aload_n (x := b) rfl dL_law_1011 ?_
    refine aw_iload (x := (nI i)) rfl dL_law_1012 ?_
    refine aw_iconst (v := 1) (by decide) dL_law_1014 ?_
    refine aw_iaddz (z := nI (i + 1)) (nI_add i 1) dL_law_1015 ?_
    refine aw_sld (v := xs (i + 1)) rfl (nI_in (by omega) (by omega)) (by rw [nI_clamp (by omega)]) dL_law_1016 ?_
    refine aw_aload_n (x := ad 16 0 0) rfl dL_law_1017 ?_
    refine aw_L (As := [.ref (ad 7 0 0), .int (xs (i + 1)), .ref (ad 16 0 0)]) (S := []) (lwx_codeLength_eA h7) fhL_codeLength wq708 wq709 rfl rfl (Nat.le_of_ble_eq_true rfl) (by decide) (by decide) hcc hcs dL_law_1018 ?_
    refine aw_istore (L2 := [some (.ref b), some (.ref (ad 7 0 0)), some (.ref (ad 14 0 0)), some (.ref (ad 16 0 0)), some (.int (nI i)), some (.int 1), none]) (Nat.le_of_ble_eq_true rfl) rfl rfl dL_law_1021 ?_
    refine aw_aload_n (x := ad 14 0 0) rfl dL_law_1023 ?_
    refine aw_aload_n (x := b) rfl dL_law_1024 ?_
    refine aw_iload (x := (nI i)) rfl dL_law_1025 ?_
    refine aw_iconst (v := 1) (by decide) dL_law_1027 ?_
    refine aw_iaddz (z := nI (i + 1)) (nI_add i 1) dL_law_1028 ?_
    refine aw_sld (v := xs (i + 1)) rfl (nI_in (by omega) (by omega)) (by rw [nI_clamp (by omega)]) dL_law_1029 ?_
    refine aw_0V (As := [.int (xs (i + 1))]) (S := []) (v := some (.int 0)) (o2 := (wd_w o 12 1 1)) h8 (mm_fit_of cbX8_codeLength (Nat.le_of_ble_eq_true rfl) (Nat.le_of_ble_eq_true rfl)) wq1101 cvX8_codeLength wv14 rfl rfl rfl (Nat.le_of_ble_eq_true rfl) rfl rfl hcc hcs rfl dL_law_1030 ?_
    refine aw_istore (L2 := [some (.ref b), some (.ref (ad 7 0 0)), some (.ref (ad 14 0 0)), some (.ref (ad 16 0 0)), some (.int (nI i)), some (.int 1), some (.int 0)]) (Nat.le_of_ble_eq_true rfl) rfl rfl dL_law_1033 ?_
    refine aw_aload_n (x := ad 14 0 0) rfl dL_law_1035 ?_
    refine aw_0V (As := []) (S := []) (v := some (.int 1)) (o2 := (wd_w o 12 1 1)) (thr_of (by rw [wd_get, if_pos ⟨rfl, rfl⟩])) (mm_fit_of cbX8_thrown (Nat.le_of_ble_eq_true rfl) (Nat.le_of_ble_eq_true rfl)) wq914 cvX8_thrown wv14 rfl rfl rfl (Nat.le_of_ble_eq_true rfl) rfl rfl hcc hcs rfl dL_law_1036 ?_
    refine aw_iload (x := 1) rfl dL_law_1039 ?_
    refine aw_icmp_eq (tgt := 1046) (by decide) dL_law_1041 (fun _ => ?_) (fun z => absurd rfl z)
    refine aw_iload (x := 1) rfl dL_law_1046 ?_
    refine aw_if_ne (tgt := 1063) (by decide) dL_law_1048 (fun _ => ?_) (fun z => absurd z (by decide))
    refine aw_goto (tgt := 1946) (by decide) dL_law_1063 ?_
    exact AW.locs (K _ n m c (R.w 1)) (lsub_keep (lsub_keep (lsub_keep (lsub_keep (lsub_keep (lsub_none (lsub_none lsub_nil)))))))
theorem bk_16 {ad : Nat → Nat → Nat → Nat} {o : wd_S} {n m c b L i : Nat} {xs : Nat → Int32} {cc cs : Nat} {F : (Option Value ⊕ String) → wd_S → Prop} (hL : L ≤ 2048) (hi : i + 4 ≤ L) (R : Rel o n m c) (hcc : cc + 2 ≤ (mm_mo (ML_law b L xs)).cells) (hcs : cs + 12 ≤ (mm_mo (ML_law b L xs)).slots) (K : ∀ o2 n m c, Rel o2 n m c → AW ad (ML_law b L xs) 1946 [some (.ref b), some (.ref (ad 7 0 0)), some (.ref (ad 14 0 0)), some (.ref (ad 16 0 0)), some (.int (nI i)), none, none] [] o2 (cc + 2) (cs + 12) F) : AW ad (ML_law b L xs) 1066 [some (.ref b), some (.ref (ad 7 0 0)), some (.ref (ad 14 0 0)), some (.ref (ad 16 0 0)), some (.int (nI i)), none, none] [] o cc cs F := by
  rcases sp_cring (ad := ad) R (x := xs (i + 1)) (k := xs (i + 2)) with ⟨v, o1, o2, h7, h8, hP, h12, hj, n2, m2, c2, R2⟩ | ⟨E, k, hE, h7, h8⟩
  · have hcmp : lg_cmp (o2.2.2 1) v.toInt64 = 0 := by rw [hj]; exact cmp_self _
    refine aw_aload_n (x := ad 7 0 0) rfl dL_law_1066 ?_
    refine aw_aload_n (x := b) rfl dL_law_1067 ?_
    refine aw_iload (x := (nI i)) rfl dL_law_1068 ?_
    refine aw_iconst (v := 1) (by decide) dL_law_1070 ?_
    refine aw_iaddz (z := nI (i + 1)) (nI_add i 1) dL_law_1071 ?_
    refine aw_sld (v := xs (i + 1)) rfl (nI_in (by omega) (by omega)) (by rw [nI_clamp (by omega)]) dL_law_1072 ?_
    refine aw_aload_n (x := b) rfl dL_law_1073 ?_
    refine aw_iload (x := (nI i)) rfl dL_law_1074 ?_
    refine aw_iconst (v := 2) (by decide) dL_law_1076 ?_
    refine aw_iaddz (z := nI (i + 2)) (nI_add i 2) dL_law_1077 ?_
    refine aw_sld (v := xs (i + 2)) rfl (nI_in (by omega) (by omega)) (by rw [nI_clamp (by omega)]) dL_law_1078 ?_
    refine aw_aload_n (x := ad 16 0 0) rfl dL_law_1079 ?_
    refine aw_L (As := [.ref (ad 7 0 0), .int (xs (i + 1)), .int (xs (i + 2)), .ref (ad 16 0 0)]) (S := []) (lwv_codeRing h7) fhL_codeRing wq717 wq718 rfl rfl (Nat.le_of_ble_eq_true rfl) (by decide) (by decide) hcc hcs dL_law_1080 ?_
    refine aw_istore (L2 := [some (.ref b), some (.ref (ad 7 0 0)), some (.ref (ad 14 0 0)), some (.ref (ad 16 0 0)), some (.int (nI i)), some (.int 0), none]) (Nat.le_of_ble_eq_true rfl) rfl rfl dL_law_1083 ?_
    refine aw_aload_n (x := ad 14 0 0) rfl dL_law_1085 ?_
    refine aw_aload_n (x := b) rfl dL_law_1086 ?_
    refine aw_iload (x := (nI i)) rfl dL_law_1087 ?_
    refine aw_iconst (v := 1) (by decide) dL_law_1089 ?_
    refine aw_iaddz (z := nI (i + 1)) (nI_add i 1) dL_law_1090 ?_
    refine aw_sld (v := xs (i + 1)) rfl (nI_in (by omega) (by omega)) (by rw [nI_clamp (by omega)]) dL_law_1091 ?_
    refine aw_aload_n (x := b) rfl dL_law_1092 ?_
    refine aw_iload (x := (nI i)) rfl dL_law_1093 ?_
    refine aw_iconst (v := 2) (by decide) dL_law_1095 ?_
    refine aw_iaddz (z := nI (i + 2)) (nI_add i 2) dL_law_1096 ?_
    refine aw_sld (v := xs (i + 2)) rfl (nI_in (by omega) (by omega)) (by rw [nI_clamp (by omega)]) dL_law_1097 ?_
    refine aw_0V (As := [.int (xs (i + 1)), .int (xs (i + 2))]) (S := []) (v := some (.int v)) (o2 := o2) h8 (mm_fit_of cbX8_codeRing (Nat.le_of_ble_eq_true rfl) (Nat.le_of_ble_eq_true rfl)) wq1108 cvX8_codeRing wv14 rfl rfl rfl (Nat.le_of_ble_eq_true rfl) rfl rfl hcc hcs rfl dL_law_1098 ?_
    refine aw_istore (L2 := [some (.ref b), some (.ref (ad 7 0 0)), some (.ref (ad 14 0 0)), some (.ref (ad 16 0 0)), some (.int (nI i)), some (.int 0), some (.int v)]) (Nat.le_of_ble_eq_true rfl) rfl rfl dL_law_1101 ?_
    refine aw_aload_n (x := ad 14 0 0) rfl dL_law_1103 ?_
    refine aw_0V (As := []) (S := []) (v := some (.int 0)) (o2 := o2) (thr_of h12) (mm_fit_of cbX8_thrown (Nat.le_of_ble_eq_true rfl) (Nat.le_of_ble_eq_true rfl)) wq914 cvX8_thrown wv14 rfl rfl rfl (Nat.le_of_ble_eq_true rfl) rfl rfl hcc hcs rfl dL_law_1104 ?_
    refine aw_iload (x := 0) rfl dL_law_1107 ?_
    refine aw_icmp_eq (tgt := 1114) (by decide) dL_law_1109 (fun _ => ?_) (fun z => absurd rfl z)
    refine aw_iload (x := 0) rfl dL_law_1114 ?_
    refine aw_if_ne (tgt := 1131) (by decide) dL_law_1116 (fun z => absurd rfl z) (fun _ => ?_)
    refine aw_aload_n (x := ad 16 0 0) rfl dL_law_1119 ?_
    refine aw_iconst (v := 0) (by decide) dL_law_1120 ?_
    refine aw_lld rfl dL_law_1121 ?_
    refine aw_iload (x := v) rfl dL_law_1122 ?_
    refine aw_i2l dL_law_1124 ?_
    refine aw_lcmp dL_law_1125 ?_
    refine aw_if_eq (tgt := 1131) (by decide) dL_law_1126 (fun _ => ?_) (fun z => absurd hcmp z)
    refine aw_goto (tgt := 1946) (by decide) dL_law_1131 ?_
    exact AW.locs (K o2 n2 m2 c2 R2) (lsub_keep (lsub_keep (lsub_keep (lsub_keep (lsub_keep (lsub_none (lsub_none lsub_nil)))))))
  · simp only [List.mem_cons, Prod.mk.injEq, List.not_mem_nil, or_false] at hE
    obtain ⟨rfl, rfl⟩ := hE
    refine aw_aload_n (x := ad 7 0 0) rfl dL_law_1066 ?_
    refine aw_aload_n (x := b) rfl dL_law_1067 ?_
    refine aw_iload (x := (nI i)) rfl dL_law_1068 ?_
    refine aw_iconst (v := 1) (by decide) dL_law_1070 ?_
    refine aw_iaddz (z := nI (i + 1)) (nI_add i 1) dL_law_1071 ?_
    refine aw_sld (v := xs (i + 1)) rfl (nI_in (by omega) (by omega)) (by rw [nI_clamp (by omega)]) dL_law_1072 ?_
    refine aw_aload_n (x := b) rfl dL_law_1073 ?_
    refine aw_iload (x := (nI i)) rfl dL_law_1074 ?_
    refine aw_iconst (v := 2) (by decide) dL_law_1076 ?_
    refine aw_iaddz (z := nI (i + 2)) (nI_add i 2) dL_law_1077 ?_
    refine aw_sld (v := xs (i + 2)) rfl (nI_in (by omega) (by omega)) (by rw [nI_clamp (by omega)]) dL_law_1078 ?_
    refine aw_aload_n (x := ad 16 0 0) rfl dL_law_1079 ?_
    refine aw_L (As := [.ref (ad 7 0 0), .int (xs (i + 1)), .int (xs (i + 2)), .ref (ad 16 0 0)]) (S := []) (lwx_codeRing_eA h7) fhL_codeRing wq717 wq718 rfl rfl (Nat.le_of_ble_eq_true rfl) (by decide) (by decide) hcc hcs dL_law_1080 ?_
    refine aw_istore (L2 := [some (.ref b), some (.ref (ad 7 0 0)), some (.ref (ad 14 0 0)), some (.ref (ad 16 0 0)), some (.int (nI i)), some (.int 1), none]) (Nat.le_of_ble_eq_true rfl) rfl rfl dL_law_1083 ?_
    refine aw_aload_n (x := ad 14 0 0) rfl dL_law_1085 ?_
    refine aw_aload_n (x := b) rfl dL_law_1086 ?_
    refine aw_iload (x := (nI i)) rfl dL_law_1087 ?_
    refine aw_iconst (v := 1) (by decide) dL_law_1089 ?_
    refine aw_iaddz (z := nI (i + 1)) (nI_add i 1) dL_law_1090 ?_
    refine aw_sld (v := xs (i + 1)) rfl (nI_in (by omega) (by omega)) (by rw [nI_clamp (by omega)]) dL_law_1091 ?_
    refine aw_aload_n (x := b) rfl dL_law_1092 ?_
    refine aw_iload (x := (nI i)) rfl dL_law_1093 ?_
    refine aw_iconst (v := 2) (by decide) dL_law_1095 ?_
    refine aw_iaddz (z := nI (i + 2)) (nI_add i 2) dL_law_1096 ?_
    refine aw_sld (v := xs (i + 2)) rfl (nI_in (by omega) (by omega)) (by rw [nI_clamp (by omega)]) dL_law_1097 ?_
    refine aw_0V (As := [.int (xs (i + 1)), .int (xs (i + 2))]) (S := []) (v := some (.int 0)) (o2 := (wd_w o 12 1 1)) h8 (mm_fit_of cbX8_codeRing (Nat.le_of_ble_eq_true rfl) (Nat.le_of_ble_eq_true rfl)) wq1108 cvX8_codeRing wv14 rfl rfl rfl (Nat.le_of_ble_eq_true rfl) rfl rfl hcc hcs rfl dL_law_1098 ?_
    refine aw_istore (L2 := [some (.ref b), some (.ref (ad 7 0 0)), some (.ref (ad 14 0 0)), some (.ref (ad 16 0 0)), some (.int (nI i)), some (.int 1), some (.int 0)]) (Nat.le_of_ble_eq_true rfl) rfl rfl dL_law_1101 ?_
    refine aw_aload_n (x := ad 14 0 0) rfl dL_law_1103 ?_
    refine aw_0V (As := []) (S := []) (v := some (.int 1)) (o2 := (wd_w o 12 1 1)) (thr_of (by rw [wd_get, if_pos ⟨rfl, rfl⟩])) (mm_fit_of cbX8_thrown (Nat.le_of_ble_eq_true rfl) (Nat.le_of_ble_eq_true rfl)) wq914 cvX8_thrown wv14 rfl rfl rfl (Nat.le_of_ble_eq_true rfl) rfl rfl hcc hcs rfl dL_law_1104 ?_
    refine aw_iload (x := 1) rfl dL_law_1107 ?_
    refine aw_icmp_eq (tgt := 1114) (by decide) dL_law_1109 (fun _ => ?_) (fun z => absurd rfl z)
    refine aw_iload (x := 1) rfl dL_law_1114 ?_
    refine aw_if_ne (tgt := 1131) (by decide) dL_law_1116 (fun _ => ?_) (fun z => absurd z (by decide))
    refine aw_goto (tgt := 1946) (by decide) dL_law_1131 ?_
    exact AW.locs (K _ n m c (R.w 1)) (lsub_keep (lsub_keep (lsub_keep (lsub_keep (lsub_keep (lsub_none (lsub_none lsub_nil)))))))
theorem bk_17 {ad : Nat → Nat → Nat → Nat} {o : wd_S} {n m c b L i : Nat} {xs : Nat → Int32} {cc cs : Nat} {F : (Option Value ⊕ String) → wd_S → Prop} (hL : L ≤ 2048) (hi : i + 4 ≤ L) (R : Rel o n m c) (hcc : cc + 2 ≤ (mm_mo (ML_law b L xs)).cells) (hcs : cs + 12 ≤ (mm_mo (ML_law b L xs)).slots) (K : ∀ o2 n m c, Rel o2 n m c → AW ad (ML_law b L xs) 1946 [some (.ref b), some (.ref (ad 7 0 0)), some (.ref (ad 14 0 0)), some (.ref (ad 16 0 0)), some (.int (nI i)), none, none] [] o2 (cc + 2) (cs + 12) F) : AW ad (ML_law b L xs) 1134 [some (.ref b), some (.ref (ad 7 0 0)), some (.ref (ad 14 0 0)), some (.ref (ad 16 0 0)), some (.int (nI i)), none, none] [] o cc cs F := by
  rcases sp_cost (ad := ad) R (x := xs (i + 1)) with ⟨v, o1, o2, h7, h8, hP, h12, hj, n2, m2, c2, R2⟩ | ⟨E, k, hE, h7, h8⟩
  · have hcmp : lg_cmp (o2.2.2 1) v.toInt64 = 0 := by rw [hj]; exact cmp_self _
    refine aw_aload_n (x := ad 7 0 0) rfl dL_law_1134 ?_
    refine aw_aload_n (x := b) rfl dL_law_1135 ?_
    refine aw_iload (x := (nI i)) rfl dL_law_1136 ?_
    refine aw_iconst (v := 1) (by decide) dL_law_1138 ?_
    refine aw_iaddz (z := nI (i + 1)) (nI_add i 1) dL_law_1139 ?_
    refine aw_sld (v := xs (i + 1)) rfl (nI_in (by omega) (by omega)) (by rw [nI_clamp (by omega)]) dL_law_1140 ?_
    refine aw_aload_n (x := ad 16 0 0) rfl dL_law_1141 ?_
    refine aw_L (As := [.ref (ad 7 0 0), .int (xs (i + 1)), .ref (ad 16 0 0)]) (S := []) (lwv_codeCost h7) fhL_codeCost wq726 wq727 rfl rfl (Nat.le_of_ble_eq_true rfl) (by decide) (by decide) hcc hcs dL_law_1142 ?_
    refine aw_istore (L2 := [some (.ref b), some (.ref (ad 7 0 0)), some (.ref (ad 14 0 0)), some (.ref (ad 16 0 0)), some (.int (nI i)), some (.int 0), none]) (Nat.le_of_ble_eq_true rfl) rfl rfl dL_law_1145 ?_
    refine aw_aload_n (x := ad 14 0 0) rfl dL_law_1147 ?_
    refine aw_aload_n (x := b) rfl dL_law_1148 ?_
    refine aw_iload (x := (nI i)) rfl dL_law_1149 ?_
    refine aw_iconst (v := 1) (by decide) dL_law_1151 ?_
    refine aw_iaddz (z := nI (i + 1)) (nI_add i 1) dL_law_1152 ?_
    refine aw_sld (v := xs (i + 1)) rfl (nI_in (by omega) (by omega)) (by rw [nI_clamp (by omega)]) dL_law_1153 ?_
    refine aw_0V (As := [.int (xs (i + 1))]) (S := []) (v := some (.int v)) (o2 := o2) h8 (mm_fit_of cbX8_codeCost (Nat.le_of_ble_eq_true rfl) (Nat.le_of_ble_eq_true rfl)) wq1112 cvX8_codeCost wv14 rfl rfl rfl (Nat.le_of_ble_eq_true rfl) rfl rfl hcc hcs rfl dL_law_1154 ?_
    refine aw_istore (L2 := [some (.ref b), some (.ref (ad 7 0 0)), some (.ref (ad 14 0 0)), some (.ref (ad 16 0 0)), some (.int (nI i)), some (.int 0), some (.int v)]) (Nat.le_of_ble_eq_true rfl) rfl rfl dL_law_1157 ?_
    refine aw_aload_n (x := ad 14 0 0) rfl dL_law_1159 ?_
    refine aw_0V (As := []) (S := []) (v := some (.int 0)) (o2 := o2) (thr_of h12) (mm_fit_of cbX8_thrown (Nat.le_of_ble_eq_true rfl) (Nat.le_of_ble_eq_true rfl)) wq914 cvX8_thrown wv14 rfl rfl rfl (Nat.le_of_ble_eq_true rfl) rfl rfl hcc hcs rfl dL_law_1160 ?_
    refine aw_iload (x := 0) rfl dL_law_1163 ?_
    refine aw_icmp_eq (tgt := 1170) (by decide) dL_law_1165 (fun _ => ?_) (fun z => absurd rfl z)
    refine aw_iload (x := 0) rfl dL_law_1170 ?_
    refine aw_if_ne (tgt := 1187) (by decide) dL_law_1172 (fun z => absurd rfl z) (fun _ => ?_)
    refine aw_aload_n (x := ad 16 0 0) rfl dL_law_1175 ?_
    refine aw_iconst (v := 0) (by decide) dL_law_1176 ?_
    refine aw_lld rfl dL_law_1177 ?_
    refine aw_iload (x := v) rfl dL_law_1178 ?_
    refine aw_i2l dL_law_1180 ?_
    refine aw_lcmp dL_law_1181 ?_
    refine aw_if_eq (tgt := 1187) (by decide) dL_law_1182 (fun _ => ?_) (fun z => absurd hcmp z)
    refine aw_goto (tgt := 1946) (by decide) dL_law_1187 ?_
    exact AW.locs (K o2 n2 m2 c2 R2) (lsub_keep (lsub_keep (lsub_keep (lsub_keep (lsub_keep (lsub_none (lsub_none lsub_nil)))))))
  · simp only [List.mem_cons, Prod.mk.injEq, List.not_mem_nil, or_false] at hE
    obtain ⟨rfl, rfl⟩ := hE
    refine aw_aload_n (x := ad 7 0 0) rfl dL_law_1134 ?_
    refine aw_aload_n (x := b) rfl dL_law_1135 ?_
    refine aw_iload (x := (nI i)) rfl dL_law_1136 ?_
    refine aw_iconst (v := 1) (by decide) dL_law_1138 ?_
    refine aw_iaddz (z := nI (i + 1)) (nI_add i 1) dL_law_1139 ?_
    refine aw_sld (v := xs (i + 1)) rfl (nI_in (by omega) (by omega)) (by rw [nI_clamp (by omega)]) dL_law_1140 ?_
    refine aw_aload_n (x := ad 16 0 0) rfl dL_law_1141 ?_
    refine aw_L (As := [.ref (ad 7 0 0), .int (xs (i + 1)), .ref (ad 16 0 0)]) (S := []) (lwx_codeCost_eI h7) fhL_codeCost wq726 wq727 rfl rfl (Nat.le_of_ble_eq_true rfl) (by decide) (by decide) hcc hcs dL_law_1142 ?_
    refine aw_istore (L2 := [some (.ref b), some (.ref (ad 7 0 0)), some (.ref (ad 14 0 0)), some (.ref (ad 16 0 0)), some (.int (nI i)), some (.int 1), none]) (Nat.le_of_ble_eq_true rfl) rfl rfl dL_law_1145 ?_
    refine aw_aload_n (x := ad 14 0 0) rfl dL_law_1147 ?_
    refine aw_aload_n (x := b) rfl dL_law_1148 ?_
    refine aw_iload (x := (nI i)) rfl dL_law_1149 ?_
    refine aw_iconst (v := 1) (by decide) dL_law_1151 ?_
    refine aw_iaddz (z := nI (i + 1)) (nI_add i 1) dL_law_1152 ?_
    refine aw_sld (v := xs (i + 1)) rfl (nI_in (by omega) (by omega)) (by rw [nI_clamp (by omega)]) dL_law_1153 ?_
    refine aw_0V (As := [.int (xs (i + 1))]) (S := []) (v := some (.int 0)) (o2 := (wd_w o 12 1 1)) h8 (mm_fit_of cbX8_codeCost (Nat.le_of_ble_eq_true rfl) (Nat.le_of_ble_eq_true rfl)) wq1112 cvX8_codeCost wv14 rfl rfl rfl (Nat.le_of_ble_eq_true rfl) rfl rfl hcc hcs rfl dL_law_1154 ?_
    refine aw_istore (L2 := [some (.ref b), some (.ref (ad 7 0 0)), some (.ref (ad 14 0 0)), some (.ref (ad 16 0 0)), some (.int (nI i)), some (.int 1), some (.int 0)]) (Nat.le_of_ble_eq_true rfl) rfl rfl dL_law_1157 ?_
    refine aw_aload_n (x := ad 14 0 0) rfl dL_law_1159 ?_
    refine aw_0V (As := []) (S := []) (v := some (.int 1)) (o2 := (wd_w o 12 1 1)) (thr_of (by rw [wd_get, if_pos ⟨rfl, rfl⟩])) (mm_fit_of cbX8_thrown (Nat.le_of_ble_eq_true rfl) (Nat.le_of_ble_eq_true rfl)) wq914 cvX8_thrown wv14 rfl rfl rfl (Nat.le_of_ble_eq_true rfl) rfl rfl hcc hcs rfl dL_law_1160 ?_
    refine aw_iload (x := 1) rfl dL_law_1163 ?_
    refine aw_icmp_eq (tgt := 1170) (by decide) dL_law_1165 (fun _ => ?_) (fun z => absurd rfl z)
    refine aw_iload (x := 1) rfl dL_law_1170 ?_
    refine aw_if_ne (tgt := 1187) (by decide) dL_law_1172 (fun _ => ?_) (fun z => absurd z (by decide))
    refine aw_goto (tgt := 1946) (by decide) dL_law_1187 ?_
    exact AW.locs (K _ n m c (R.w 1)) (lsub_keep (lsub_keep (lsub_keep (lsub_keep (lsub_keep (lsub_none (lsub_none lsub_nil)))))))
theorem bk_18 {ad : Nat → Nat → Nat → Nat} {o : wd_S} {n m c b L i : Nat} {xs : Nat → Int32} {cc cs : Nat} {F : (Option Value ⊕ String) → wd_S → Prop} (hL : L ≤ 2048) (hi : i + 4 ≤ L) (R : Rel o n m c) (hcc : cc + 2 ≤ (mm_mo (ML_law b L xs)).cells) (hcs : cs + 12 ≤ (mm_mo (ML_law b L xs)).slots) (K : ∀ o2 n m c, Rel o2 n m c → AW ad (ML_law b L xs) 1946 [some (.ref b), some (.ref (ad 7 0 0)), some (.ref (ad 14 0 0)), some (.ref (ad 16 0 0)), some (.int (nI i)), none, none] [] o2 (cc + 2) (cs + 12) F) : AW ad (ML_law b L xs) 1190 [some (.ref b), some (.ref (ad 7 0 0)), some (.ref (ad 14 0 0)), some (.ref (ad 16 0 0)), some (.int (nI i)), none, none] [] o cc cs F := by
  rcases sp_best (ad := ad) R (x := xs (i + 1)) with ⟨v, o1, o2, h7, h8, hP, h12, hj, n2, m2, c2, R2⟩ | ⟨E, k, hE, h7, h8⟩
  · have hcmp : lg_cmp (o2.2.2 1) v.toInt64 = 0 := by rw [hj]; exact cmp_self _
    refine aw_aload_n (x := ad 7 0 0) rfl dL_law_1190 ?_
    refine aw_aload_n (x := b) rfl dL_law_1191 ?_
    refine aw_iload (x := (nI i)) rfl dL_law_1192 ?_
    refine aw_iconst (v := 1) (by decide) dL_law_1194 ?_
    refine aw_iaddz (z := nI (i + 1)) (nI_add i 1) dL_law_1195 ?_
    refine aw_sld (v := xs (i + 1)) rfl (nI_in (by omega) (by omega)) (by rw [nI_clamp (by omega)]) dL_law_1196 ?_
    refine aw_aload_n (x := ad 16 0 0) rfl dL_law_1197 ?_
    refine aw_L (As := [.ref (ad 7 0 0), .int (xs (i + 1)), .ref (ad 16 0 0)]) (S := []) (lwv_bestCodes h7) fhL_bestCodes wq733 wq734 rfl rfl (Nat.le_of_ble_eq_true rfl) (by decide) (by decide) hcc hcs dL_law_1198 ?_
    refine aw_istore (L2 := [some (.ref b), some (.ref (ad 7 0 0)), some (.ref (ad 14 0 0)), some (.ref (ad 16 0 0)), some (.int (nI i)), some (.int 0), none]) (Nat.le_of_ble_eq_true rfl) rfl rfl dL_law_1201 ?_
    refine aw_aload_n (x := ad 14 0 0) rfl dL_law_1203 ?_
    refine aw_aload_n (x := b) rfl dL_law_1204 ?_
    refine aw_iload (x := (nI i)) rfl dL_law_1205 ?_
    refine aw_iconst (v := 1) (by decide) dL_law_1207 ?_
    refine aw_iaddz (z := nI (i + 1)) (nI_add i 1) dL_law_1208 ?_
    refine aw_sld (v := xs (i + 1)) rfl (nI_in (by omega) (by omega)) (by rw [nI_clamp (by omega)]) dL_law_1209 ?_
    refine aw_0V (As := [.int (xs (i + 1))]) (S := []) (v := some (.int v)) (o2 := o2) h8 (mm_fit_of cbX8_bestCodes (Nat.le_of_ble_eq_true rfl) (Nat.le_of_ble_eq_true rfl)) wq1120 cvX8_bestCodes wv14 rfl rfl rfl (Nat.le_of_ble_eq_true rfl) rfl rfl hcc hcs rfl dL_law_1210 ?_
    refine aw_istore (L2 := [some (.ref b), some (.ref (ad 7 0 0)), some (.ref (ad 14 0 0)), some (.ref (ad 16 0 0)), some (.int (nI i)), some (.int 0), some (.int v)]) (Nat.le_of_ble_eq_true rfl) rfl rfl dL_law_1213 ?_
    refine aw_aload_n (x := ad 14 0 0) rfl dL_law_1215 ?_
    refine aw_0V (As := []) (S := []) (v := some (.int 0)) (o2 := o2) (thr_of h12) (mm_fit_of cbX8_thrown (Nat.le_of_ble_eq_true rfl) (Nat.le_of_ble_eq_true rfl)) wq914 cvX8_thrown wv14 rfl rfl rfl (Nat.le_of_ble_eq_true rfl) rfl rfl hcc hcs rfl dL_law_1216 ?_
    refine aw_iload (x := 0) rfl dL_law_1219 ?_
    refine aw_icmp_eq (tgt := 1226) (by decide) dL_law_1221 (fun _ => ?_) (fun z => absurd rfl z)
    refine aw_iload (x := 0) rfl dL_law_1226 ?_
    refine aw_if_ne (tgt := 1243) (by decide) dL_law_1228 (fun z => absurd rfl z) (fun _ => ?_)
    refine aw_aload_n (x := ad 16 0 0) rfl dL_law_1231 ?_
    refine aw_iconst (v := 0) (by decide) dL_law_1232 ?_
    refine aw_lld rfl dL_law_1233 ?_
    refine aw_iload (x := v) rfl dL_law_1234 ?_
    refine aw_i2l dL_law_1236 ?_
    refine aw_lcmp dL_law_1237 ?_
    refine aw_if_eq (tgt := 1243) (by decide) dL_law_1238 (fun _ => ?_) (fun z => absurd hcmp z)
    refine aw_goto (tgt := 1946) (by decide) dL_law_1243 ?_
    exact AW.locs (K o2 n2 m2 c2 R2) (lsub_keep (lsub_keep (lsub_keep (lsub_keep (lsub_keep (lsub_none (lsub_none lsub_nil)))))))
  · simp only [List.mem_cons, Prod.mk.injEq, List.not_mem_nil, or_false] at hE
    obtain ⟨rfl, rfl⟩ := hE
    refine aw_aload_n (x := ad 7 0 0) rfl dL_law_1190 ?_
    refine aw_aload_n (x := b) rfl dL_law_1191 ?_
    refine aw_iload (x := (nI i)) rfl dL_law_1192 ?_
    refine aw_iconst (v := 1) (by decide) dL_law_1194 ?_
    refine aw_iaddz (z := nI (i + 1)) (nI_add i 1) dL_law_1195 ?_
    refine aw_sld (v := xs (i + 1)) rfl (nI_in (by omega) (by omega)) (by rw [nI_clamp (by omega)]) dL_law_1196 ?_
    refine aw_aload_n (x := ad 16 0 0) rfl dL_law_1197 ?_
    refine aw_L (As := [.ref (ad 7 0 0), .int (xs (i + 1)), .ref (ad 16 0 0)]) (S := []) (lwx_bestCodes_eI h7) fhL_bestCodes wq733 wq734 rfl rfl (Nat.le_of_ble_eq_true rfl) (by decide) (by decide) hcc hcs dL_law_1198 ?_
    refine aw_istore (L2 := [some (.ref b), some (.ref (ad 7 0 0)), some (.ref (ad 14 0 0)), some (.ref (ad 16 0 0)), some (.int (nI i)), some (.int 1), none]) (Nat.le_of_ble_eq_true rfl) rfl rfl dL_law_1201 ?_
    refine aw_aload_n (x := ad 14 0 0) rfl dL_law_1203 ?_
    refine aw_aload_n (x := b) rfl dL_law_1204 ?_
    refine aw_iload (x := (nI i)) rfl dL_law_1205 ?_
    refine aw_iconst (v := 1) (by decide) dL_law_1207 ?_
    refine aw_iaddz (z := nI (i + 1)) (nI_add i 1) dL_law_1208 ?_
    refine aw_sld (v := xs (i + 1)) rfl (nI_in (by omega) (by omega)) (by rw [nI_clamp (by omega)]) dL_law_1209 ?_
    refine aw_0V (As := [.int (xs (i + 1))]) (S := []) (v := some (.int 0)) (o2 := (wd_w o 12 1 1)) h8 (mm_fit_of cbX8_bestCodes (Nat.le_of_ble_eq_true rfl) (Nat.le_of_ble_eq_true rfl)) wq1120 cvX8_bestCodes wv14 rfl rfl rfl (Nat.le_of_ble_eq_true rfl) rfl rfl hcc hcs rfl dL_law_1210 ?_
    refine aw_istore (L2 := [some (.ref b), some (.ref (ad 7 0 0)), some (.ref (ad 14 0 0)), some (.ref (ad 16 0 0)), some (.int (nI i)), some (.int 1), some (.int 0)]) (Nat.le_of_ble_eq_true rfl) rfl rfl dL_law_1213 ?_
    refine aw_aload_n (x := ad 14 0 0) rfl dL_law_1215 ?_
    refine aw_0V (As := []) (S := []) (v := some (.int 1)) (o2 := (wd_w o 12 1 1)) (thr_of (by rw [wd_get, if_pos ⟨rfl, rfl⟩])) (mm_fit_of cbX8_thrown (Nat.le_of_ble_eq_true rfl) (Nat.le_of_ble_eq_true rfl)) wq914 cvX8_thrown wv14 rfl rfl rfl (Nat.le_of_ble_eq_true rfl) rfl rfl hcc hcs rfl dL_law_1216 ?_
    refine aw_iload (x := 1) rfl dL_law_1219 ?_
    refine aw_icmp_eq (tgt := 1226) (by decide) dL_law_1221 (fun _ => ?_) (fun z => absurd rfl z)
    refine aw_iload (x := 1) rfl dL_law_1226 ?_
    refine aw_if_ne (tgt := 1243) (by decide) dL_law_1228 (fun _ => ?_) (fun z => absurd z (by decide))
    refine aw_goto (tgt := 1946) (by decide) dL_law_1243 ?_
    exact AW.locs (K _ n m c (R.w 1)) (lsub_keep (lsub_keep (lsub_keep (lsub_keep (lsub_keep (lsub_none (lsub_none lsub_nil)))))))
theorem bk_19 {ad : Nat → Nat → Nat → Nat} {o : wd_S} {n m c b L i : Nat} {xs : Nat → Int32} {cc cs : Nat} {F : (Option Value ⊕ String) → wd_S → Prop} (hL : L ≤ 2048) (hi : i + 4 ≤ L) (R : Rel o n m c) (hcc : cc + 2 ≤ (mm_mo (ML_law b L xs)).cells) (hcs : cs + 12 ≤ (mm_mo (ML_law b L xs)).slots) (K : ∀ o2 n m c, Rel o2 n m c → AW ad (ML_law b L xs) 1946 [some (.ref b), some (.ref (ad 7 0 0)), some (.ref (ad 14 0 0)), some (.ref (ad 16 0 0)), some (.int (nI i)), none, none] [] o2 (cc + 2) (cs + 12) F) : AW ad (ML_law b L xs) 1246 [some (.ref b), some (.ref (ad 7 0 0)), some (.ref (ad 14 0 0)), some (.ref (ad 16 0 0)), some (.int (nI i)), none, none] [] o cc cs F := by
  rcases sp_assign (ad := ad) R (x := xs (i + 1)) with ⟨v, o1, o2, h7, h8, hP, h12, hj, n2, m2, c2, R2⟩ | ⟨E, k, hE, h7, h8⟩
  · have hcmp : lg_cmp (o2.2.2 1) v.toInt64 = 0 := by rw [hj]; exact cmp_self _
    refine aw_aload_n (x := ad 7 0 0) rfl dL_law_1246 ?_
    refine aw_aload_n (x := b) rfl dL_law_1247 ?_
    refine aw_iload (x := (nI i)) rfl dL_law_1248 ?_
    refine aw_iconst (v := 1) (by decide) dL_law_1250 ?_
    refine aw_iaddz (z := nI (i + 1)) (nI_add i 1) dL_law_1251 ?_
    refine aw_sld (v := xs (i + 1)) rfl (nI_in (by omega) (by omega)) (by rw [nI_clamp (by omega)]) dL_law_1252 ?_
    refine aw_aload_n (x := ad 16 0 0) rfl dL_law_1253 ?_
    refine aw_L (As := [.ref (ad 7 0 0), .int (xs (i + 1)), .ref (ad 16 0 0)]) (S := []) (lwv_assignCodes h7) fhL_assignCodes wq757 wq758 rfl rfl (Nat.le_of_ble_eq_true rfl) (by decide) (by decide) hcc hcs dL_law_1254 ?_
    refine aw_istore (L2 := [some (.ref b), some (.ref (ad 7 0 0)), some (.ref (ad 14 0 0)), some (.ref (ad 16 0 0)), some (.int (nI i)), some (.int 0), none]) (Nat.le_of_ble_eq_true rfl) rfl rfl dL_law_1257 ?_
    refine aw_aload_n (x := ad 14 0 0) rfl dL_law_1259 ?_
    refine aw_aload_n (x := b) rfl dL_law_1260 ?_
    refine aw_iload (x := (nI i)) rfl dL_law_1261 ?_
    refine aw_iconst (v := 1) (by decide) dL_law_1263 ?_
    refine aw_iaddz (z := nI (i + 1)) (nI_add i 1) dL_law_1264 ?_
    refine aw_sld (v := xs (i + 1)) rfl (nI_in (by omega) (by omega)) (by rw [nI_clamp (by omega)]) dL_law_1265 ?_
    refine aw_0V (As := [.int (xs (i + 1))]) (S := []) (v := some (.int v)) (o2 := o2) h8 (mm_fit_of cbX8_assignCodes (Nat.le_of_ble_eq_true rfl) (Nat.le_of_ble_eq_true rfl)) wq1131 cvX8_assignCodes wv14 rfl rfl rfl (Nat.le_of_ble_eq_true rfl) rfl rfl hcc hcs rfl dL_law_1266 ?_
    refine aw_istore (L2 := [some (.ref b), some (.ref (ad 7 0 0)), some (.ref (ad 14 0 0)), some (.ref (ad 16 0 0)), some (.int (nI i)), some (.int 0), some (.int v)]) (Nat.le_of_ble_eq_true rfl) rfl rfl dL_law_1269 ?_
    refine aw_aload_n (x := ad 14 0 0) rfl dL_law_1271 ?_
    refine aw_0V (As := []) (S := []) (v := some (.int 0)) (o2 := o2) (thr_of h12) (mm_fit_of cbX8_thrown (Nat.le_of_ble_eq_true rfl) (Nat.le_of_ble_eq_true rfl)) wq914 cvX8_thrown wv14 rfl rfl rfl (Nat.le_of_ble_eq_true rfl) rfl rfl hcc hcs rfl dL_law_1272 ?_
    refine aw_iload (x := 0) rfl dL_law_1275 ?_
    refine aw_icmp_eq (tgt := 1282) (by decide) dL_law_1277 (fun _ => ?_) (fun z => absurd rfl z)
    refine aw_iload (x := 0) rfl dL_law_1282 ?_
    refine aw_if_ne (tgt := 1299) (by decide) dL_law_1284 (fun z => absurd rfl z) (fun _ => ?_)
    refine aw_aload_n (x := ad 16 0 0) rfl dL_law_1287 ?_
    refine aw_iconst (v := 0) (by decide) dL_law_1288 ?_
    refine aw_lld rfl dL_law_1289 ?_
    refine aw_iload (x := v) rfl dL_law_1290 ?_
    refine aw_i2l dL_law_1292 ?_
    refine aw_lcmp dL_law_1293 ?_
    refine aw_if_eq (tgt := 1299) (by decide) dL_law_1294 (fun _ => ?_) (fun z => absurd hcmp z)
    refine aw_goto (tgt := 1946) (by decide) dL_law_1299 ?_
    exact AW.locs (K o2 n2 m2 c2 R2) (lsub_keep (lsub_keep (lsub_keep (lsub_keep (lsub_keep (lsub_none (lsub_none lsub_nil)))))))
  · simp only [List.mem_cons, Prod.mk.injEq, List.not_mem_nil, or_false] at hE
    rcases hE with ⟨rfl, rfl⟩ | ⟨rfl, rfl⟩
    · skip
      refine aw_aload_n (x := ad 7 0 0) rfl dL_law_1246 ?_
      refine aw_aload_n (x := b) rfl dL_law_1247 ?_
      refine aw_iload (x := (nI i)) rfl dL_law_1248 ?_
      refine aw_iconst (v := 1) (by decide) dL_law_1250 ?_
      refine aw_iaddz (z := nI (i + 1)) (nI_add i 1) dL_law_1251 ?_
      refine aw_sld (v := xs (i + 1)) rfl (nI_in (by omega) (by omega)) (by rw [nI_clamp (by omega)]) dL_law_1252 ?_
      refine aw_aload_n (x := ad 16 0 0) rfl dL_law_1253 ?_
      refine aw_L (As := [.ref (ad 7 0 0), .int (xs (i + 1)), .ref (ad 16 0 0)]) (S := []) (lwx_assignCodes_eI h7) fhL_assignCodes wq757 wq758 rfl rfl (Nat.le_of_ble_eq_true rfl) (by decide) (by decide) hcc hcs dL_law_1254 ?_
      refine aw_istore (L2 := [some (.ref b), some (.ref (ad 7 0 0)), some (.ref (ad 14 0 0)), some (.ref (ad 16 0 0)), some (.int (nI i)), some (.int 1), none]) (Nat.le_of_ble_eq_true rfl) rfl rfl dL_law_1257 ?_
      refine aw_aload_n (x := ad 14 0 0) rfl dL_law_1259 ?_
      refine aw_aload_n (x := b) rfl dL_law_1260 ?_
      refine aw_iload (x := (nI i)) rfl dL_law_1261 ?_
      refine aw_iconst (v := 1) (by decide) dL_law_1263 ?_
      refine aw_iaddz (z := nI (i + 1)) (nI_add i 1) dL_law_1264 ?_
      refine aw_sld (v := xs (i + 1)) rfl (nI_in (by omega) (by omega)) (by rw [nI_clamp (by omega)]) dL_law_1265 ?_
      refine aw_0V (As := [.int (xs (i + 1))]) (S := []) (v := some (.int 0)) (o2 := (wd_w o 12 1 1)) h8 (mm_fit_of cbX8_assignCodes (Nat.le_of_ble_eq_true rfl) (Nat.le_of_ble_eq_true rfl)) wq1131 cvX8_assignCodes wv14 rfl rfl rfl (Nat.le_of_ble_eq_true rfl) rfl rfl hcc hcs rfl dL_law_1266 ?_
      refine aw_istore (L2 := [some (.ref b), some (.ref (ad 7 0 0)), some (.ref (ad 14 0 0)), some (.ref (ad 16 0 0)), some (.int (nI i)), some (.int 1), some (.int 0)]) (Nat.le_of_ble_eq_true rfl) rfl rfl dL_law_1269 ?_
      refine aw_aload_n (x := ad 14 0 0) rfl dL_law_1271 ?_
      refine aw_0V (As := []) (S := []) (v := some (.int 1)) (o2 := (wd_w o 12 1 1)) (thr_of (by rw [wd_get, if_pos ⟨rfl, rfl⟩])) (mm_fit_of cbX8_thrown (Nat.le_of_ble_eq_true rfl) (Nat.le_of_ble_eq_true rfl)) wq914 cvX8_thrown wv14 rfl rfl rfl (Nat.le_of_ble_eq_true rfl) rfl rfl hcc hcs rfl dL_law_1272 ?_
      refine aw_iload (x := 1) rfl dL_law_1275 ?_
      refine aw_icmp_eq (tgt := 1282) (by decide) dL_law_1277 (fun _ => ?_) (fun z => absurd rfl z)
      refine aw_iload (x := 1) rfl dL_law_1282 ?_
      refine aw_if_ne (tgt := 1299) (by decide) dL_law_1284 (fun _ => ?_) (fun z => absurd z (by decide))
      refine aw_goto (tgt := 1946) (by decide) dL_law_1299 ?_
      exact AW.locs (K _ n m c (R.w 1)) (lsub_keep (lsub_keep (lsub_keep (lsub_keep (lsub_keep (lsub_none (lsub_none lsub_nil)))))))
    · skip
      refine aw_aload_n (x := ad 7 0 0) rfl dL_law_1246 ?_
      refine aw_aload_n (x := b) rfl dL_law_1247 ?_
      refine aw_iload (x := (nI i)) rfl dL_law_1248 ?_
      refine aw_iconst (v := 1) (by decide) dL_law_1250 ?_
      refine aw_iaddz (z := nI (i + 1)) (nI_add i 1) dL_law_1251 ?_
      refine aw_sld (v := xs (i + 1)) rfl (nI_in (by omega) (by omega)) (by rw [nI_clamp (by omega)]) dL_law_1252 ?_
      refine aw_aload_n (x := ad 16 0 0) rfl dL_law_1253 ?_
      refine aw_L (As := [.ref (ad 7 0 0), .int (xs (i + 1)), .ref (ad 16 0 0)]) (S := []) (lwx_assignCodes_eS h7) fhL_assignCodes wq757 wq758 rfl rfl (Nat.le_of_ble_eq_true rfl) (by decide) (by decide) hcc hcs dL_law_1254 ?_
      refine aw_istore (L2 := [some (.ref b), some (.ref (ad 7 0 0)), some (.ref (ad 14 0 0)), some (.ref (ad 16 0 0)), some (.int (nI i)), some (.int 2), none]) (Nat.le_of_ble_eq_true rfl) rfl rfl dL_law_1257 ?_
      refine aw_aload_n (x := ad 14 0 0) rfl dL_law_1259 ?_
      refine aw_aload_n (x := b) rfl dL_law_1260 ?_
      refine aw_iload (x := (nI i)) rfl dL_law_1261 ?_
      refine aw_iconst (v := 1) (by decide) dL_law_1263 ?_
      refine aw_iaddz (z := nI (i + 1)) (nI_add i 1) dL_law_1264 ?_
      refine aw_sld (v := xs (i + 1)) rfl (nI_in (by omega) (by omega)) (by rw [nI_clamp (by omega)]) dL_law_1265 ?_
      refine aw_0V (As := [.int (xs (i + 1))]) (S := []) (v := some (.int 0)) (o2 := (wd_w o 12 1 2)) h8 (mm_fit_of cbX8_assignCodes (Nat.le_of_ble_eq_true rfl) (Nat.le_of_ble_eq_true rfl)) wq1131 cvX8_assignCodes wv14 rfl rfl rfl (Nat.le_of_ble_eq_true rfl) rfl rfl hcc hcs rfl dL_law_1266 ?_
      refine aw_istore (L2 := [some (.ref b), some (.ref (ad 7 0 0)), some (.ref (ad 14 0 0)), some (.ref (ad 16 0 0)), some (.int (nI i)), some (.int 2), some (.int 0)]) (Nat.le_of_ble_eq_true rfl) rfl rfl dL_law_1269 ?_
      refine aw_aload_n (x := ad 14 0 0) rfl dL_law_1271 ?_
      refine aw_0V (As := []) (S := []) (v := some (.int 2)) (o2 := (wd_w o 12 1 2)) (thr_of (by rw [wd_get, if_pos ⟨rfl, rfl⟩])) (mm_fit_of cbX8_thrown (Nat.le_of_ble_eq_true rfl) (Nat.le_of_ble_eq_true rfl)) wq914 cvX8_thrown wv14 rfl rfl rfl (Nat.le_of_ble_eq_true rfl) rfl rfl hcc hcs rfl dL_law_1272 ?_
      refine aw_iload (x := 2) rfl dL_law_1275 ?_
      refine aw_icmp_eq (tgt := 1282) (by decide) dL_law_1277 (fun _ => ?_) (fun z => absurd rfl z)
      refine aw_iload (x := 2) rfl dL_law_1282 ?_
      refine aw_if_ne (tgt := 1299) (by decide) dL_law_1284 (fun _ => ?_) (fun z => absurd z (by decide))
      refine aw_goto (tgt := 1946) (by decide) dL_law_1299 ?_
      exact AW.locs (K _ n m c (R.w 2)) (lsub_keep (lsub_keep (lsub_keep (lsub_keep (lsub_keep (lsub_none (lsub_none lsub_nil)))))))
theorem bk_20 {ad : Nat → Nat → Nat → Nat} {o : wd_S} {n m c b L i : Nat} {xs : Nat → Int32} {cc cs : Nat} {F : (Option Value ⊕ String) → wd_S → Prop} (hL : L ≤ 2048) (hi : i + 4 ≤ L) (R : Rel o n m c) (hcc : cc + 2 ≤ (mm_mo (ML_law b L xs)).cells) (hcs : cs + 12 ≤ (mm_mo (ML_law b L xs)).slots) (K : ∀ o2 n m c, Rel o2 n m c → AW ad (ML_law b L xs) 1946 [some (.ref b), some (.ref (ad 7 0 0)), some (.ref (ad 14 0 0)), some (.ref (ad 16 0 0)), some (.int (nI i)), none, none] [] o2 (cc + 2) (cs + 12) F) : AW ad (ML_law b L xs) 1302 [some (.ref b), some (.ref (ad 7 0 0)), some (.ref (ad 14 0 0)), some (.ref (ad 16 0 0)), some (.int (nI i)), none, none] [] o cc cs F := by
  by_cases hz : xs (i + 3) = 0
  · skip
    rcases sp_fault (ad := ad) R (x := xs (i + 1)) (k := xs (i + 2)) (b := 0) (Or.inl rfl) with ⟨v, o1, o2, h7, h8, hP, h12, hj, n2, m2, c2, R2⟩ | ⟨E, k, hE, h7, h8⟩
    · have hcmp : lg_cmp (o2.2.2 1) v.toInt64 = 0 := by rw [hj]; exact cmp_self _
      refine aw_aload_n (x := ad 7 0 0) rfl dL_law_1302 ?_
      refine aw_aload_n (x := b) rfl dL_law_1303 ?_
      refine aw_iload (x := (nI i)) rfl dL_law_1304 ?_
      refine aw_iconst (v := 1) (by decide) dL_law_1306 ?_
      refine aw_iaddz (z := nI (i + 1)) (nI_add i 1) dL_law_1307 ?_
      refine aw_sld (v := xs (i + 1)) rfl (nI_in (by omega) (by omega)) (by rw [nI_clamp (by omega)]) dL_law_1308 ?_
      refine aw_aload_n (x := b) rfl dL_law_1309 ?_
      refine aw_iload (x := (nI i)) rfl dL_law_1310 ?_
      refine aw_iconst (v := 2) (by decide) dL_law_1312 ?_
      refine aw_iaddz (z := nI (i + 2)) (nI_add i 2) dL_law_1313 ?_
      refine aw_sld (v := xs (i + 2)) rfl (nI_in (by omega) (by omega)) (by rw [nI_clamp (by omega)]) dL_law_1314 ?_
      refine aw_aload_n (x := b) rfl dL_law_1315 ?_
      refine aw_iload (x := (nI i)) rfl dL_law_1316 ?_
      refine aw_iconst (v := 3) (by decide) dL_law_1318 ?_
      refine aw_iaddz (z := nI (i + 3)) (nI_add i 3) dL_law_1319 ?_
      refine aw_sld (v := xs (i + 3)) rfl (nI_in (by omega) (by omega)) (by rw [nI_clamp (by omega)]) dL_law_1320 ?_
      refine aw_if_eq (tgt := 1328) (by decide) dL_law_1321 (fun _ => ?_) (fun z => absurd hz z)
      refine aw_iconst (v := 0) (by decide) dL_law_1328 ?_
      refine aw_aload_n (x := ad 16 0 0) rfl dL_law_1329 ?_
      refine aw_L (As := [.ref (ad 7 0 0), .int (xs (i + 1)), .int (xs (i + 2)), .int 0, .ref (ad 16 0 0)]) (S := []) (lwv_fault h7) fhL_fault wq769 wq770 rfl rfl (Nat.le_of_ble_eq_true rfl) (by decide) (by decide) hcc hcs dL_law_1330 ?_
      refine aw_istore (L2 := [some (.ref b), some (.ref (ad 7 0 0)), some (.ref (ad 14 0 0)), some (.ref (ad 16 0 0)), some (.int (nI i)), some (.int 0), none]) (Nat.le_of_ble_eq_true rfl) rfl rfl dL_law_1333 ?_
      refine aw_aload_n (x := ad 14 0 0) rfl dL_law_1335 ?_
      refine aw_aload_n (x := b) rfl dL_law_1336 ?_
      refine aw_iload (x := (nI i)) rfl dL_law_1337 ?_
      refine aw_iconst (v := 1) (by decide) dL_law_1339 ?_
      refine aw_iaddz (z := nI (i + 1)) (nI_add i 1) dL_law_1340 ?_
      refine aw_sld (v := xs (i + 1)) rfl (nI_in (by omega) (by omega)) (by rw [nI_clamp (by omega)]) dL_law_1341 ?_
      refine aw_aload_n (x := b) rfl dL_law_1342 ?_
      refine aw_iload (x := (nI i)) rfl dL_law_1343 ?_
      refine aw_iconst (v := 2) (by decide) dL_law_1345 ?_
      refine aw_iaddz (z := nI (i + 2)) (nI_add i 2) dL_law_1346 ?_
      refine aw_sld (v := xs (i + 2)) rfl (nI_in (by omega) (by omega)) (by rw [nI_clamp (by omega)]) dL_law_1347 ?_
      refine aw_aload_n (x := b) rfl dL_law_1348 ?_
      refine aw_iload (x := (nI i)) rfl dL_law_1349 ?_
      refine aw_iconst (v := 3) (by decide) dL_law_1351 ?_
      refine aw_iaddz (z := nI (i + 3)) (nI_add i 3) dL_law_1352 ?_
      refine aw_sld (v := xs (i + 3)) rfl (nI_in (by omega) (by omega)) (by rw [nI_clamp (by omega)]) dL_law_1353 ?_
      refine aw_if_eq (tgt := 1361) (by decide) dL_law_1354 (fun _ => ?_) (fun z => absurd hz z)
      refine aw_iconst (v := 0) (by decide) dL_law_1361 ?_
      refine aw_0V (As := [.int (xs (i + 1)), .int (xs (i + 2)), .int 0]) (S := []) (v := some (.int v)) (o2 := o2) h8 (mm_fit_of cbX8_fault (Nat.le_of_ble_eq_true rfl) (Nat.le_of_ble_eq_true rfl)) wq1135 cvX8_fault wv14 rfl rfl rfl (Nat.le_of_ble_eq_true rfl) rfl rfl hcc hcs rfl dL_law_1362 ?_
      refine aw_istore (L2 := [some (.ref b), some (.ref (ad 7 0 0)), some (.ref (ad 14 0 0)), some (.ref (ad 16 0 0)), some (.int (nI i)), some (.int 0), some (.int v)]) (Nat.le_of_ble_eq_true rfl) rfl rfl dL_law_1365 ?_
      refine aw_aload_n (x := ad 14 0 0) rfl dL_law_1367 ?_
      refine aw_0V (As := []) (S := []) (v := some (.int 0)) (o2 := o2) (thr_of h12) (mm_fit_of cbX8_thrown (Nat.le_of_ble_eq_true rfl) (Nat.le_of_ble_eq_true rfl)) wq914 cvX8_thrown wv14 rfl rfl rfl (Nat.le_of_ble_eq_true rfl) rfl rfl hcc hcs rfl dL_law_1368 ?_
      refine aw_iload (x := 0) rfl dL_law_1371 ?_
      refine aw_icmp_eq (tgt := 1378) (by decide) dL_law_1373 (fun _ => ?_) (fun z => absurd rfl z)
      refine aw_iload (x := 0) rfl dL_law_1378 ?_
      refine aw_if_ne (tgt := 1395) (by decide) dL_law_1380 (fun z => absurd rfl z) (fun _ => ?_)
      refine aw_aload_n (x := ad 16 0 0) rfl dL_law_1383 ?_
      refine aw_iconst (v := 0) (by decide) dL_law_1384 ?_
      refine aw_lld rfl dL_law_1385 ?_
      refine aw_iload (x := v) rfl dL_law_1386 ?_
      refine aw_i2l dL_law_1388 ?_
      refine aw_lcmp dL_law_1389 ?_
      refine aw_if_eq (tgt := 1395) (by decide) dL_law_1390 (fun _ => ?_) (fun z => absurd hcmp z)
      refine aw_goto (tgt := 1946) (by decide) dL_law_1395 ?_
      exact AW.locs (K o2 n2 m2 c2 R2) (lsub_keep (lsub_keep (lsub_keep (lsub_keep (lsub_keep (lsub_none (lsub_none lsub_nil)))))))
    · simp only [List.mem_cons, Prod.mk.injEq, List.not_mem_nil, or_false] at hE
      rcases hE with ⟨rfl, rfl⟩ | ⟨rfl, rfl⟩
      · skip
        refine aw_aload_n (x := ad 7 0 0) rfl dL_law_1302 ?_
        refine aw_aload_n (x := b) rfl dL_law_1303 ?_
        refine aw_iload (x := (nI i)) rfl dL_law_1304 ?_
        refine aw_iconst (v := 1) (by decide) dL_law_1306 ?_
        refine aw_iaddz (z := nI (i + 1)) (nI_add i 1) dL_law_1307 ?_
        refine aw_sld (v := xs (i + 1)) rfl (nI_in (by omega) (by omega)) (by rw [nI_clamp (by omega)]) dL_law_1308 ?_
        refine aw_aload_n (x := b) rfl dL_law_1309 ?_
        refine aw_iload (x := (nI i)) rfl dL_law_1310 ?_
        refine aw_iconst (v := 2) (by decide) dL_law_1312 ?_
        refine aw_iaddz (z := nI (i + 2)) (nI_add i 2) dL_law_1313 ?_
        refine aw_sld (v := xs (i + 2)) rfl (nI_in (by omega) (by omega)) (by rw [nI_clamp (by omega)]) dL_law_1314 ?_
        refine aw_aload_n (x := b) rfl dL_law_1315 ?_
        refine aw_iload (x := (nI i)) rfl dL_law_1316 ?_
        refine aw_iconst (v := 3) (by decide) dL_law_1318 ?_
        refine aw_iaddz (z := nI (i + 3)) (nI_add i 3) dL_law_1319 ?_
        refine aw_sld (v := xs (i + 3)) rfl (nI_in (by omega) (by omega)) (by rw [nI_clamp (by omega)]) dL_law_1320 ?_
        refine aw_if_eq (tgt := 1328) (by decide) dL_law_1321 (fun _ => ?_) (fun z => absurd hz z)
        refine aw_iconst (v := 0) (by decide) dL_law_1328 ?_
        refine aw_aload_n (x := ad 16 0 0) rfl dL_law_1329 ?_
        refine aw_L (As := [.ref (ad 7 0 0), .int (xs (i + 1)), .int (xs (i + 2)), .int 0, .ref (ad 16 0 0)]) (S := []) (lwx_fault_eI h7) fhL_fault wq769 wq770 rfl rfl (Nat.le_of_ble_eq_true rfl) (by decide) (by decide) hcc hcs dL_law_1330 ?_
        refine aw_istore (L2 := [some (.ref b), some (.ref (ad 7 0 0)), some (.ref (ad 14 0 0)), some (.ref (ad 16 0 0)), some (.int (nI i)), some (.int 1), none]) (Nat.le_of_ble_eq_true rfl) rfl rfl dL_law_1333 ?_
        refine aw_aload_n (x := ad 14 0 0) rfl dL_law_1335 ?_
        refine aw_aload_n (x := b) rfl dL_law_1336 ?_
        refine aw_iload (x := (nI i)) rfl dL_law_1337 ?_
        refine aw_iconst (v := 1) (by decide) dL_law_1339 ?_
        refine aw_iaddz (z := nI (i + 1)) (nI_add i 1) dL_law_1340 ?_
        refine aw_sld (v := xs (i + 1)) rfl (nI_in (by omega) (by omega)) (by rw [nI_clamp (by omega)]) dL_law_1341 ?_
        refine aw_aload_n (x := b) rfl dL_law_1342 ?_
        refine aw_iload (x := (nI i)) rfl dL_law_1343 ?_
        refine aw_iconst (v := 2) (by decide) dL_law_1345 ?_
        refine aw_iaddz (z := nI (i + 2)) (nI_add i 2) dL_law_1346 ?_
        refine aw_sld (v := xs (i + 2)) rfl (nI_in (by omega) (by omega)) (by rw [nI_clamp (by omega)]) dL_law_1347 ?_
        refine aw_aload_n (x := b) rfl dL_law_1348 ?_
        refine aw_iload (x := (nI i)) rfl dL_law_1349 ?_
        refine aw_iconst (v := 3) (by decide) dL_law_1351 ?_
        refine aw_iaddz (z := nI (i + 3)) (nI_add i 3) dL_law_1352 ?_
        refine aw_sld (v := xs (i + 3)) rfl (nI_in (by omega) (by omega)) (by rw [nI_clamp (by omega)]) dL_law_1353 ?_
        refine aw_if_eq (tgt := 1361) (by decide) dL_law_1354 (fun _ => ?_) (fun z => absurd hz z)
        refine aw_iconst (v := 0) (by decide) dL_law_1361 ?_
        refine aw_0V (As := [.int (xs (i + 1)), .int (xs (i + 2)), .int 0]) (S := []) (v := some (.int 0)) (o2 := (wd_w o 12 1 1)) h8 (mm_fit_of cbX8_fault (Nat.le_of_ble_eq_true rfl) (Nat.le_of_ble_eq_true rfl)) wq1135 cvX8_fault wv14 rfl rfl rfl (Nat.le_of_ble_eq_true rfl) rfl rfl hcc hcs rfl dL_law_1362 ?_
        refine aw_istore (L2 := [some (.ref b), some (.ref (ad 7 0 0)), some (.ref (ad 14 0 0)), some (.ref (ad 16 0 0)), some (.int (nI i)), some (.int 1), some (.int 0)]) (Nat.le_of_ble_eq_true rfl) rfl rfl dL_law_1365 ?_
        refine aw_aload_n (x := ad 14 0 0) rfl dL_law_1367 ?_
        refine aw_0V (As := []) (S := []) (v := some (.int 1)) (o2 := (wd_w o 12 1 1)) (thr_of (by rw [wd_get, if_pos ⟨rfl, rfl⟩])) (mm_fit_of cbX8_thrown (Nat.le_of_ble_eq_true rfl) (Nat.le_of_ble_eq_true rfl)) wq914 cvX8_thrown wv14 rfl rfl rfl (Nat.le_of_ble_eq_true rfl) rfl rfl hcc hcs rfl dL_law_1368 ?_
        refine aw_iload (x := 1) rfl dL_law_1371 ?_
        refine aw_icmp_eq (tgt := 1378) (by decide) dL_law_1373 (fun _ => ?_) (fun z => absurd rfl z)
        refine aw_iload (x := 1) rfl dL_law_1378 ?_
        refine aw_if_ne (tgt := 1395) (by decide) dL_law_1380 (fun _ => ?_) (fun z => absurd z (by decide))
        refine aw_goto (tgt := 1946) (by decide) dL_law_1395 ?_
        exact AW.locs (K _ n m c (R.w 1)) (lsub_keep (lsub_keep (lsub_keep (lsub_keep (lsub_keep (lsub_none (lsub_none lsub_nil)))))))
      · skip
        refine aw_aload_n (x := ad 7 0 0) rfl dL_law_1302 ?_
        refine aw_aload_n (x := b) rfl dL_law_1303 ?_
        refine aw_iload (x := (nI i)) rfl dL_law_1304 ?_
        refine aw_iconst (v := 1) (by decide) dL_law_1306 ?_
        refine aw_iaddz (z := nI (i + 1)) (nI_add i 1) dL_law_1307 ?_
        refine aw_sld (v := xs (i + 1)) rfl (nI_in (by omega) (by omega)) (by rw [nI_clamp (by omega)]) dL_law_1308 ?_
        refine aw_aload_n (x := b) rfl dL_law_1309 ?_
        refine aw_iload (x := (nI i)) rfl dL_law_1310 ?_
        refine aw_iconst (v := 2) (by decide) dL_law_1312 ?_
        refine aw_iaddz (z := nI (i + 2)) (nI_add i 2) dL_law_1313 ?_
        refine aw_sld (v := xs (i + 2)) rfl (nI_in (by omega) (by omega)) (by rw [nI_clamp (by omega)]) dL_law_1314 ?_
        refine aw_aload_n (x := b) rfl dL_law_1315 ?_
        refine aw_iload (x := (nI i)) rfl dL_law_1316 ?_
        refine aw_iconst (v := 3) (by decide) dL_law_1318 ?_
        refine aw_iaddz (z := nI (i + 3)) (nI_add i 3) dL_law_1319 ?_
        refine aw_sld (v := xs (i + 3)) rfl (nI_in (by omega) (by omega)) (by rw [nI_clamp (by omega)]) dL_law_1320 ?_
        refine aw_if_eq (tgt := 1328) (by decide) dL_law_1321 (fun _ => ?_) (fun z => absurd hz z)
        refine aw_iconst (v := 0) (by decide) dL_law_1328 ?_
        refine aw_aload_n (x := ad 16 0 0) rfl dL_law_1329 ?_
        refine aw_L (As := [.ref (ad 7 0 0), .int (xs (i + 1)), .int (xs (i + 2)), .int 0, .ref (ad 16 0 0)]) (S := []) (lwx_fault_eS h7) fhL_fault wq769 wq770 rfl rfl (Nat.le_of_ble_eq_true rfl) (by decide) (by decide) hcc hcs dL_law_1330 ?_
        refine aw_istore (L2 := [some (.ref b), some (.ref (ad 7 0 0)), some (.ref (ad 14 0 0)), some (.ref (ad 16 0 0)), some (.int (nI i)), some (.int 2), none]) (Nat.le_of_ble_eq_true rfl) rfl rfl dL_law_1333 ?_
        refine aw_aload_n (x := ad 14 0 0) rfl dL_law_1335 ?_
        refine aw_aload_n (x := b) rfl dL_law_1336 ?_
        refine aw_iload (x := (nI i)) rfl dL_law_1337 ?_
        refine aw_iconst (v := 1) (by decide) dL_law_1339 ?_
        refine aw_iaddz (z := nI (i + 1)) (nI_add i 1) dL_law_1340 ?_
        refine aw_sld (v := xs (i + 1)) rfl (nI_in (by omega) (by omega)) (by rw [nI_clamp (by omega)]) dL_law_1341 ?_
        refine aw_aload_n (x := b) rfl dL_law_1342 ?_
        refine aw_iload (x := (nI i)) rfl dL_law_1343 ?_
        refine aw_iconst (v := 2) (by decide) dL_law_1345 ?_
        refine aw_iaddz (z := nI (i + 2)) (nI_add i 2) dL_law_1346 ?_
        refine aw_sld (v := xs (i + 2)) rfl (nI_in (by omega) (by omega)) (by rw [nI_clamp (by omega)]) dL_law_1347 ?_
        refine aw_aload_n (x := b) rfl dL_law_1348 ?_
        refine aw_iload (x := (nI i)) rfl dL_law_1349 ?_
        refine aw_iconst (v := 3) (by decide) dL_law_1351 ?_
        refine aw_iaddz (z := nI (i + 3)) (nI_add i 3) dL_law_1352 ?_
        refine aw_sld (v := xs (i + 3)) rfl (nI_in (by omega) (by omega)) (by rw [nI_clamp (by omega)]) dL_law_1353 ?_
        refine aw_if_eq (tgt := 1361) (by decide) dL_law_1354 (fun _ => ?_) (fun z => absurd hz z)
        refine aw_iconst (v := 0) (by decide) dL_law_1361 ?_
        refine aw_0V (As := [.int (xs (i + 1)), .int (xs (i + 2)), .int 0]) (S := []) (v := some (.int 0)) (o2 := (wd_w o 12 1 2)) h8 (mm_fit_of cbX8_fault (Nat.le_of_ble_eq_true rfl) (Nat.le_of_ble_eq_true rfl)) wq1135 cvX8_fault wv14 rfl rfl rfl (Nat.le_of_ble_eq_true rfl) rfl rfl hcc hcs rfl dL_law_1362 ?_
        refine aw_istore (L2 := [some (.ref b), some (.ref (ad 7 0 0)), some (.ref (ad 14 0 0)), some (.ref (ad 16 0 0)), some (.int (nI i)), some (.int 2), some (.int 0)]) (Nat.le_of_ble_eq_true rfl) rfl rfl dL_law_1365 ?_
        refine aw_aload_n (x := ad 14 0 0) rfl dL_law_1367 ?_
        refine aw_0V (As := []) (S := []) (v := some (.int 2)) (o2 := (wd_w o 12 1 2)) (thr_of (by rw [wd_get, if_pos ⟨rfl, rfl⟩])) (mm_fit_of cbX8_thrown (Nat.le_of_ble_eq_true rfl) (Nat.le_of_ble_eq_true rfl)) wq914 cvX8_thrown wv14 rfl rfl rfl (Nat.le_of_ble_eq_true rfl) rfl rfl hcc hcs rfl dL_law_1368 ?_
        refine aw_iload (x := 2) rfl dL_law_1371 ?_
        refine aw_icmp_eq (tgt := 1378) (by decide) dL_law_1373 (fun _ => ?_) (fun z => absurd rfl z)
        refine aw_iload (x := 2) rfl dL_law_1378 ?_
        refine aw_if_ne (tgt := 1395) (by decide) dL_law_1380 (fun _ => ?_) (fun z => absurd z (by decide))
        refine aw_goto (tgt := 1946) (by decide) dL_law_1395 ?_
        exact AW.locs (K _ n m c (R.w 2)) (lsub_keep (lsub_keep (lsub_keep (lsub_keep (lsub_keep (lsub_none (lsub_none lsub_nil)))))))
  · skip
    rcases sp_fault (ad := ad) R (x := xs (i + 1)) (k := xs (i + 2)) (b := 1) (Or.inr rfl) with ⟨v, o1, o2, h7, h8, hP, h12, hj, n2, m2, c2, R2⟩ | ⟨E, k, hE, h7, h8⟩
    · have hcmp : lg_cmp (o2.2.2 1) v.toInt64 = 0 := by rw [hj]; exact cmp_self _
      refine aw_aload_n (x := ad 7 0 0) rfl dL_law_1302 ?_
      refine aw_aload_n (x := b) rfl dL_law_1303 ?_
      refine aw_iload (x := (nI i)) rfl dL_law_1304 ?_
      refine aw_iconst (v := 1) (by decide) dL_law_1306 ?_
      refine aw_iaddz (z := nI (i + 1)) (nI_add i 1) dL_law_1307 ?_
      refine aw_sld (v := xs (i + 1)) rfl (nI_in (by omega) (by omega)) (by rw [nI_clamp (by omega)]) dL_law_1308 ?_
      refine aw_aload_n (x := b) rfl dL_law_1309 ?_
      refine aw_iload (x := (nI i)) rfl dL_law_1310 ?_
      refine aw_iconst (v := 2) (by decide) dL_law_1312 ?_
      refine aw_iaddz (z := nI (i + 2)) (nI_add i 2) dL_law_1313 ?_
      refine aw_sld (v := xs (i + 2)) rfl (nI_in (by omega) (by omega)) (by rw [nI_clamp (by omega)]) dL_law_1314 ?_
      refine aw_aload_n (x := b) rfl dL_law_1315 ?_
      refine aw_iload (x := (nI i)) rfl dL_law_1316 ?_
      refine aw_iconst (v := 3) (by decide) dL_law_1318 ?_
      refine aw_iaddz (z := nI (i + 3)) (nI_add i 3) dL_law_1319 ?_
      refine aw_sld (v := xs (i + 3)) rfl (nI_in (by omega) (by omega)) (by rw [nI_clamp (by omega)]) dL_law_1320 ?_
      refine aw_if_eq (tgt := 1328) (by decide) dL_law_1321 (fun z => absurd z hz) (fun _ => ?_)
      refine aw_iconst (v := 1) (by decide) dL_law_1324 ?_
      refine aw_goto (tgt := 1329) (by decide) dL_law_1325 ?_
      refine aw_aload_n (x := ad 16 0 0) rfl dL_law_1329 ?_
      refine aw_L (As := [.ref (ad 7 0 0), .int (xs (i + 1)), .int (xs (i + 2)), .int 1, .ref (ad 16 0 0)]) (S := []) (lwv_fault h7) fhL_fault wq769 wq770 rfl rfl (Nat.le_of_ble_eq_true rfl) (by decide) (by decide) hcc hcs dL_law_1330 ?_
      refine aw_istore (L2 := [some (.ref b), some (.ref (ad 7 0 0)), some (.ref (ad 14 0 0)), some (.ref (ad 16 0 0)), some (.int (nI i)), some (.int 0), none]) (Nat.le_of_ble_eq_true rfl) rfl rfl dL_law_1333 ?_
      refine aw_aload_n (x := ad 14 0 0) rfl dL_law_1335 ?_
      refine aw_aload_n (x := b) rfl dL_law_1336 ?_
      refine aw_iload (x := (nI i)) rfl dL_law_1337 ?_
      refine aw_iconst (v := 1) (by decide) dL_law_1339 ?_
      refine aw_iaddz (z := nI (i + 1)) (nI_add i 1) dL_law_1340 ?_
      refine aw_sld (v := xs (i + 1)) rfl (nI_in (by omega) (by omega)) (by rw [nI_clamp (by omega)]) dL_law_1341 ?_
      refine aw_aload_n (x := b) rfl dL_law_1342 ?_
      refine aw_iload (x := (nI i)) rfl dL_law_1343 ?_
      refine aw_iconst (v := 2) (by decide) dL_law_1345 ?_
      refine aw_iaddz (z := nI (i + 2)) (nI_add i 2) dL_law_1346 ?_
      refine aw_sld (v := xs (i + 2)) rfl (nI_in (by omega) (by omega)) (by rw [nI_clamp (by omega)]) dL_law_1347 ?_
      refine aw_aload_n (x := b) rfl dL_law_1348 ?_
      refine aw_iload (x := (nI i)) rfl dL_law_1349 ?_
      refine aw_iconst (v := 3) (by decide) dL_law_1351 ?_
      refine aw_iaddz (z := nI (i + 3)) (nI_add i 3) dL_law_1352 ?_
      refine aw_sld (v := xs (i + 3)) rfl (nI_in (by omega) (by omega)) (by rw [nI_clamp (by omega)]) dL_law_1353 ?_
      refine aw_if_eq (tgt := 1361) (by decide) dL_law_1354 (fun z => absurd z hz) (fun _ => ?_)
      refine aw_iconst (v := 1) (by decide) dL_law_1357 ?_
      refine aw_goto (tgt := 1362) (by decide) dL_law_1358 ?_
      refine aw_0V (As := [.int (xs (i + 1)), .int (xs (i + 2)), .int 1]) (S := []) (v := some (.int v)) (o2 := o2) h8 (mm_fit_of cbX8_fault (Nat.le_of_ble_eq_true rfl) (Nat.le_of_ble_eq_true rfl)) wq1135 cvX8_fault wv14 rfl rfl rfl (Nat.le_of_ble_eq_true rfl) rfl rfl hcc hcs rfl dL_law_1362 ?_
      refine aw_istore (L2 := [some (.ref b), some (.ref (ad 7 0 0)), some (.ref (ad 14 0 0)), some (.ref (ad 16 0 0)), some (.int (nI i)), some (.int 0), some (.int v)]) (Nat.le_of_ble_eq_true rfl) rfl rfl dL_law_1365 ?_
      refine aw_aload_n (x := ad 14 0 0) rfl dL_law_1367 ?_
      refine aw_0V (As := []) (S := []) (v := some (.int 0)) (o2 := o2) (thr_of h12) (mm_fit_of cbX8_thrown (Nat.le_of_ble_eq_true rfl) (Nat.le_of_ble_eq_true rfl)) wq914 cvX8_thrown wv14 rfl rfl rfl (Nat.le_of_ble_eq_true rfl) rfl rfl hcc hcs rfl dL_law_1368 ?_
      refine aw_iload (x := 0) rfl dL_law_1371 ?_
      refine aw_icmp_eq (tgt := 1378) (by decide) dL_law_1373 (fun _ => ?_) (fun z => absurd rfl z)
      refine aw_iload (x := 0) rfl dL_law_1378 ?_
      refine aw_if_ne (tgt := 1395) (by decide) dL_law_1380 (fun z => absurd rfl z) (fun _ => ?_)
      refine aw_aload_n (x := ad 16 0 0) rfl dL_law_1383 ?_
      refine aw_iconst (v := 0) (by decide) dL_law_1384 ?_
      refine aw_lld rfl dL_law_1385 ?_
      refine aw_iload (x := v) rfl dL_law_1386 ?_
      refine aw_i2l dL_law_1388 ?_
      refine aw_lcmp dL_law_1389 ?_
      refine aw_if_eq (tgt := 1395) (by decide) dL_law_1390 (fun _ => ?_) (fun z => absurd hcmp z)
      refine aw_goto (tgt := 1946) (by decide) dL_law_1395 ?_
      exact AW.locs (K o2 n2 m2 c2 R2) (lsub_keep (lsub_keep (lsub_keep (lsub_keep (lsub_keep (lsub_none (lsub_none lsub_nil)))))))
    · simp only [List.mem_cons, Prod.mk.injEq, List.not_mem_nil, or_false] at hE
      rcases hE with ⟨rfl, rfl⟩ | ⟨rfl, rfl⟩
      · skip
        refine aw_aload_n (x := ad 7 0 0) rfl dL_law_1302 ?_
        refine aw_aload_n (x := b) rfl dL_law_1303 ?_
        refine aw_iload (x := (nI i)) rfl dL_law_1304 ?_
        refine aw_iconst (v := 1) (by decide) dL_law_1306 ?_
        refine aw_iaddz (z := nI (i + 1)) (nI_add i 1) dL_law_1307 ?_
        refine aw_sld (v := xs (i + 1)) rfl (nI_in (by omega) (by omega)) (by rw [nI_clamp (by omega)]) dL_law_1308 ?_
        refine aw_aload_n (x := b) rfl dL_law_1309 ?_
        refine aw_iload (x := (nI i)) rfl dL_law_1310 ?_
        refine aw_iconst (v := 2) (by decide) dL_law_1312 ?_
        refine aw_iaddz (z := nI (i + 2)) (nI_add i 2) dL_law_1313 ?_
        refine aw_sld (v := xs (i + 2)) rfl (nI_in (by omega) (by omega)) (by rw [nI_clamp (by omega)]) dL_law_1314 ?_
        refine aw_aload_n (x := b) rfl dL_law_1315 ?_
        refine aw_iload (x := (nI i)) rfl dL_law_1316 ?_
        refine aw_iconst (v := 3) (by decide) dL_law_1318 ?_
        refine aw_iaddz (z := nI (i + 3)) (nI_add i 3) dL_law_1319 ?_
        refine aw_sld (v := xs (i + 3)) rfl (nI_in (by omega) (by omega)) (by rw [nI_clamp (by omega)]) dL_law_1320 ?_
        refine aw_if_eq (tgt := 1328) (by decide) dL_law_1321 (fun z => absurd z hz) (fun _ => ?_)
        refine aw_iconst (v := 1) (by decide) dL_law_1324 ?_
        refine aw_goto (tgt := 1329) (by decide) dL_law_1325 ?_
        refine aw_aload_n (x := ad 16 0 0) rfl dL_law_1329 ?_
        refine aw_L (As := [.ref (ad 7 0 0), .int (xs (i + 1)), .int (xs (i + 2)), .int 1, .ref (ad 16 0 0)]) (S := []) (lwx_fault_eI h7) fhL_fault wq769 wq770 rfl rfl (Nat.le_of_ble_eq_true rfl) (by decide) (by decide) hcc hcs dL_law_1330 ?_
        refine aw_istore (L2 := [some (.ref b), some (.ref (ad 7 0 0)), some (.ref (ad 14 0 0)), some (.ref (ad 16 0 0)), some (.int (nI i)), some (.int 1), none]) (Nat.le_of_ble_eq_true rfl) rfl rfl dL_law_1333 ?_
        refine aw_aload_n (x := ad 14 0 0) rfl dL_law_1335 ?_
        refine aw_aload_n (x := b) rfl dL_law_1336 ?_
        refine aw_iload (x := (nI i)) rfl dL_law_1337 ?_
        refine aw_iconst (v := 1) (by decide) dL_law_1339 ?_
        refine aw_iaddz (z := nI (i + 1)) (nI_add i 1) dL_law_1340 ?_
        refine aw_sld (v := xs (i + 1)) rfl (nI_in (by omega) (by omega)) (by rw [nI_clamp (by omega)]) dL_law_1341 ?_
        refine aw_aload_n (x := b) rfl dL_law_1342 ?_
        refine aw_iload (x := (nI i)) rfl dL_law_1343 ?_
        refine aw_iconst (v := 2) (by decide) dL_law_1345 ?_
        refine aw_iaddz (z := nI (i + 2)) (nI_add i 2) dL_law_1346 ?_
        refine aw_sld (v := xs (i + 2)) rfl (nI_in (by omega) (by omega)) (by rw [nI_clamp (by omega)]) dL_law_1347 ?_
        refine aw_aload_n (x := b) rfl dL_law_1348 ?_
        refine aw_iload (x := (nI i)) rfl dL_law_1349 ?_
        refine aw_iconst (v := 3) (by decide) dL_law_1351 ?_
        refine aw_iaddz (z := nI (i + 3)) (nI_add i 3) dL_law_1352 ?_
        refine aw_sld (v := xs (i + 3)) rfl (nI_in (by omega) (by omega)) (by rw [nI_clamp (by omega)]) dL_law_1353 ?_
        refine aw_if_eq (tgt := 1361) (by decide) dL_law_1354 (fun z => absurd z hz) (fun _ => ?_)
        refine aw_iconst (v := 1) (by decide) dL_law_1357 ?_
        refine aw_goto (tgt := 1362) (by decide) dL_law_1358 ?_
        refine aw_0V (As := [.int (xs (i + 1)), .int (xs (i + 2)), .int 1]) (S := []) (v := some (.int 0)) (o2 := (wd_w o 12 1 1)) h8 (mm_fit_of cbX8_fault (Nat.le_of_ble_eq_true rfl) (Nat.le_of_ble_eq_true rfl)) wq1135 cvX8_fault wv14 rfl rfl rfl (Nat.le_of_ble_eq_true rfl) rfl rfl hcc hcs rfl dL_law_1362 ?_
        refine aw_istore (L2 := [some (.ref b), some (.ref (ad 7 0 0)), some (.ref (ad 14 0 0)), some (.ref (ad 16 0 0)), some (.int (nI i)), some (.int 1), some (.int 0)]) (Nat.le_of_ble_eq_true rfl) rfl rfl dL_law_1365 ?_
        refine aw_aload_n (x := ad 14 0 0) rfl dL_law_1367 ?_
        refine aw_0V (As := []) (S := []) (v := some (.int 1)) (o2 := (wd_w o 12 1 1)) (thr_of (by rw [wd_get, if_pos ⟨rfl, rfl⟩])) (mm_fit_of cbX8_thrown (Nat.le_of_ble_eq_true rfl) (Nat.le_of_ble_eq_true rfl)) wq914 cvX8_thrown wv14 rfl rfl rfl (Nat.le_of_ble_eq_true rfl) rfl rfl hcc hcs rfl dL_law_1368 ?_
        refine aw_iload (x := 1) rfl dL_law_1371 ?_
        refine aw_icmp_eq (tgt := 1378) (by decide) dL_law_1373 (fun _ => ?_) (fun z => absurd rfl z)
        refine aw_iload (x := 1) rfl dL_law_1378 ?_
        refine aw_if_ne (tgt := 1395) (by decide) dL_law_1380 (fun _ => ?_) (fun z => absurd z (by decide))
        refine aw_goto (tgt := 1946) (by decide) dL_law_1395 ?_
        exact AW.locs (K _ n m c (R.w 1)) (lsub_keep (lsub_keep (lsub_keep (lsub_keep (lsub_keep (lsub_none (lsub_none lsub_nil)))))))
      · skip
        refine aw_aload_n (x := ad 7 0 0) rfl dL_law_1302 ?_
        refine aw_aload_n (x := b) rfl dL_law_1303 ?_
        refine aw_iload (x := (nI i)) rfl dL_law_1304 ?_
        refine aw_iconst (v := 1) (by decide) dL_law_1306 ?_
        refine aw_iaddz (z := nI (i + 1)) (nI_add i 1) dL_law_1307 ?_
        refine aw_sld (v := xs (i + 1)) rfl (nI_in (by omega) (by omega)) (by rw [nI_clamp (by omega)]) dL_law_1308 ?_
        refine aw_aload_n (x := b) rfl dL_law_1309 ?_
        refine aw_iload (x := (nI i)) rfl dL_law_1310 ?_
        refine aw_iconst (v := 2) (by decide) dL_law_1312 ?_
        refine aw_iaddz (z := nI (i + 2)) (nI_add i 2) dL_law_1313 ?_
        refine aw_sld (v := xs (i + 2)) rfl (nI_in (by omega) (by omega)) (by rw [nI_clamp (by omega)]) dL_law_1314 ?_
        refine aw_aload_n (x := b) rfl dL_law_1315 ?_
        refine aw_iload (x := (nI i)) rfl dL_law_1316 ?_
        refine aw_iconst (v := 3) (by decide) dL_law_1318 ?_
        refine aw_iaddz (z := nI (i + 3)) (nI_add i 3) dL_law_1319 ?_
        refine aw_sld (v := xs (i + 3)) rfl (nI_in (by omega) (by omega)) (by rw [nI_clamp (by omega)]) dL_law_1320 ?_
        refine aw_if_eq (tgt := 1328) (by decide) dL_law_1321 (fun z => absurd z hz) (fun _ => ?_)
        refine aw_iconst (v := 1) (by decide) dL_law_1324 ?_
        refine aw_goto (tgt := 1329) (by decide) dL_law_1325 ?_
        refine aw_aload_n (x := ad 16 0 0) rfl dL_law_1329 ?_
        refine aw_L (As := [.ref (ad 7 0 0), .int (xs (i + 1)), .int (xs (i + 2)), .int 1, .ref (ad 16 0 0)]) (S := []) (lwx_fault_eS h7) fhL_fault wq769 wq770 rfl rfl (Nat.le_of_ble_eq_true rfl) (by decide) (by decide) hcc hcs dL_law_1330 ?_
        refine aw_istore (L2 := [some (.ref b), some (.ref (ad 7 0 0)), some (.ref (ad 14 0 0)), some (.ref (ad 16 0 0)), some (.int (nI i)), some (.int 2), none]) (Nat.le_of_ble_eq_true rfl) rfl rfl dL_law_1333 ?_
        refine aw_aload_n (x := ad 14 0 0) rfl dL_law_1335 ?_
        refine aw_aload_n (x := b) rfl dL_law_1336 ?_
        refine aw_iload (x := (nI i)) rfl dL_law_1337 ?_
        refine aw_iconst (v := 1) (by decide) dL_law_1339 ?_
        refine aw_iaddz (z := nI (i + 1)) (nI_add i 1) dL_law_1340 ?_
        refine aw_sld (v := xs (i + 1)) rfl (nI_in (by omega) (by omega)) (by rw [nI_clamp (by omega)]) dL_law_1341 ?_
        refine aw_aload_n (x := b) rfl dL_law_1342 ?_
        refine aw_iload (x := (nI i)) rfl dL_law_1343 ?_
        refine aw_iconst (v := 2) (by decide) dL_law_1345 ?_
        refine aw_iaddz (z := nI (i + 2)) (nI_add i 2) dL_law_1346 ?_
        refine aw_sld (v := xs (i + 2)) rfl (nI_in (by omega) (by omega)) (by rw [nI_clamp (by omega)]) dL_law_1347 ?_
        refine aw_aload_n (x := b) rfl dL_law_1348 ?_
        refine aw_iload (x := (nI i)) rfl dL_law_1349 ?_
        refine aw_iconst (v := 3) (by decide) dL_law_1351 ?_
        refine aw_iaddz (z := nI (i + 3)) (nI_add i 3) dL_law_1352 ?_
        refine aw_sld (v := xs (i + 3)) rfl (nI_in (by omega) (by omega)) (by rw [nI_clamp (by omega)]) dL_law_1353 ?_
        refine aw_if_eq (tgt := 1361) (by decide) dL_law_1354 (fun z => absurd z hz) (fun _ => ?_)
        refine aw_iconst (v := 1) (by decide) dL_law_1357 ?_
        refine aw_goto (tgt := 1362) (by decide) dL_law_1358 ?_
        refine aw_0V (As := [.int (xs (i + 1)), .int (xs (i + 2)), .int 1]) (S := []) (v := some (.int 0)) (o2 := (wd_w o 12 1 2)) h8 (mm_fit_of cbX8_fault (Nat.le_of_ble_eq_true rfl) (Nat.le_of_ble_eq_true rfl)) wq1135 cvX8_fault wv14 rfl rfl rfl (Nat.le_of_ble_eq_true rfl) rfl rfl hcc hcs rfl dL_law_1362 ?_
        refine aw_istore (L2 := [some (.ref b), some (.ref (ad 7 0 0)), some (.ref (ad 14 0 0)), some (.ref (ad 16 0 0)), some (.int (nI i)), some (.int 2), some (.int 0)]) (Nat.le_of_ble_eq_true rfl) rfl rfl dL_law_1365 ?_
        refine aw_aload_n (x := ad 14 0 0) rfl dL_law_1367 ?_
        refine aw_0V (As := []) (S := []) (v := some (.int 2)) (o2 := (wd_w o 12 1 2)) (thr_of (by rw [wd_get, if_pos ⟨rfl, rfl⟩])) (mm_fit_of cbX8_thrown (Nat.le_of_ble_eq_true rfl) (Nat.le_of_ble_eq_true rfl)) wq914 cvX8_thrown wv14 rfl rfl rfl (Nat.le_of_ble_eq_true rfl) rfl rfl hcc hcs rfl dL_law_1368 ?_
        refine aw_iload (x := 2) rfl dL_law_1371 ?_
        refine aw_icmp_eq (tgt := 1378) (by decide) dL_law_1373 (fun _ => ?_) (fun z => absurd rfl z)
        refine aw_iload (x := 2) rfl dL_law_1378 ?_
        refine aw_if_ne (tgt := 1395) (by decide) dL_law_1380 (fun _ => ?_) (fun z => absurd z (by decide))
        refine aw_goto (tgt := 1946) (by decide) dL_law_1395 ?_
        exact AW.locs (K _ n m c (R.w 2)) (lsub_keep (lsub_keep (lsub_keep (lsub_keep (lsub_keep (lsub_none (lsub_none lsub_nil)))))))
theorem bk_21 {ad : Nat → Nat → Nat → Nat} {o : wd_S} {n m c b L i : Nat} {xs : Nat → Int32} {cc cs : Nat} {F : (Option Value ⊕ String) → wd_S → Prop} (hL : L ≤ 2048) (hi : i + 4 ≤ L) (R : Rel o n m c) (hcc : cc + 2 ≤ (mm_mo (ML_law b L xs)).cells) (hcs : cs + 12 ≤ (mm_mo (ML_law b L xs)).slots) (K : ∀ o2 n m c, Rel o2 n m c → AW ad (ML_law b L xs) 1946 [some (.ref b), some (.ref (ad 7 0 0)), some (.ref (ad 14 0 0)), some (.ref (ad 16 0 0)), some (.int (nI i)), none, none] [] o2 (cc + 2) (cs + 12) F) : AW ad (ML_law b L xs) 1398 [some (.ref b), some (.ref (ad 7 0 0)), some (.ref (ad 14 0 0)), some (.ref (ad 16 0 0)), some (.int (nI i)), none, none] [] o cc cs F := by
  rcases sp_mend (ad := ad) R (x := xs (i + 1)) with ⟨v, o1, o2, h7, h8, hP, h12, hj, n2, m2, c2, R2⟩ | ⟨E, k, hE, h7, h8⟩
  · have hcmp : lg_cmp (o2.2.2 1) v.toInt64 = 0 := by rw [hj]; exact cmp_self _
    refine aw_aload_n (x := ad 7 0 0) rfl dL_law_1398 ?_
    refine aw_aload_n (x := b) rfl dL_law_1399 ?_
    refine aw_iload (x := (nI i)) rfl dL_law_1400 ?_
    refine aw_iconst (v := 1) (by decide) dL_law_1402 ?_
    refine aw_iaddz (z := nI (i + 1)) (nI_add i 1) dL_law_1403 ?_
    refine aw_sld (v := xs (i + 1)) rfl (nI_in (by omega) (by omega)) (by rw [nI_clamp (by omega)]) dL_law_1404 ?_
    refine aw_aload_n (x := ad 16 0 0) rfl dL_law_1405 ?_
    refine aw_L (As := [.ref (ad 7 0 0), .int (xs (i + 1)), .ref (ad 16 0 0)]) (S := []) (lwv_mend h7) fhL_mend wq787 wq788 rfl rfl (Nat.le_of_ble_eq_true rfl) (by decide) (by decide) hcc hcs dL_law_1406 ?_
    refine aw_istore (L2 := [some (.ref b), some (.ref (ad 7 0 0)), some (.ref (ad 14 0 0)), some (.ref (ad 16 0 0)), some (.int (nI i)), some (.int 0), none]) (Nat.le_of_ble_eq_true rfl) rfl rfl dL_law_1409 ?_
    refine aw_aload_n (x := ad 14 0 0) rfl dL_law_1411 ?_
    refine aw_aload_n (x := b) rfl dL_law_1412 ?_
    refine aw_iload (x := (nI i)) rfl dL_law_1413 ?_
    refine aw_iconst (v := 1) (by decide) dL_law_1415 ?_
    refine aw_iaddz (z := nI (i + 1)) (nI_add i 1) dL_law_1416 ?_
    refine aw_sld (v := xs (i + 1)) rfl (nI_in (by omega) (by omega)) (by rw [nI_clamp (by omega)]) dL_law_1417 ?_
    refine aw_0V (As := [.int (xs (i + 1))]) (S := []) (v := some (.int v)) (o2 := o2) h8 (mm_fit_of cbX8_mend (Nat.le_of_ble_eq_true rfl) (Nat.le_of_ble_eq_true rfl)) wq1139 cvX8_mend wv14 rfl rfl rfl (Nat.le_of_ble_eq_true rfl) rfl rfl hcc hcs rfl dL_law_1418 ?_
    refine aw_istore (L2 := [some (.ref b), some (.ref (ad 7 0 0)), some (.ref (ad 14 0 0)), some (.ref (ad 16 0 0)), some (.int (nI i)), some (.int 0), some (.int v)]) (Nat.le_of_ble_eq_true rfl) rfl rfl dL_law_1421 ?_
    refine aw_aload_n (x := ad 14 0 0) rfl dL_law_1423 ?_
    refine aw_0V (As := []) (S := []) (v := some (.int 0)) (o2 := o2) (thr_of h12) (mm_fit_of cbX8_thrown (Nat.le_of_ble_eq_true rfl) (Nat.le_of_ble_eq_true rfl)) wq914 cvX8_thrown wv14 rfl rfl rfl (Nat.le_of_ble_eq_true rfl) rfl rfl hcc hcs rfl dL_law_1424 ?_
    refine aw_iload (x := 0) rfl dL_law_1427 ?_
    refine aw_icmp_eq (tgt := 1434) (by decide) dL_law_1429 (fun _ => ?_) (fun z => absurd rfl z)
    refine aw_iload (x := 0) rfl dL_law_1434 ?_
    refine aw_if_ne (tgt := 1451) (by decide) dL_law_1436 (fun z => absurd rfl z) (fun _ => ?_)
    refine aw_aload_n (x := ad 16 0 0) rfl dL_law_1439 ?_
    refine aw_iconst (v := 0) (by decide) dL_law_1440 ?_
    refine aw_lld rfl dL_law_1441 ?_
    refine aw_iload (x := v) rfl dL_law_1442 ?_
    refine aw_i2l dL_law_1444 ?_
    refine aw_lcmp dL_law_1445 ?_
    refine aw_if_eq (tgt := 1451) (by decide) dL_law_1446 (fun _ => ?_) (fun z => absurd hcmp z)
    refine aw_goto (tgt := 1946) (by decide) dL_law_1451 ?_
    exact AW.locs (K o2 n2 m2 c2 R2) (lsub_keep (lsub_keep (lsub_keep (lsub_keep (lsub_keep (lsub_none (lsub_none lsub_nil)))))))
  · simp only [List.mem_cons, Prod.mk.injEq, List.not_mem_nil, or_false] at hE
    rcases hE with ⟨rfl, rfl⟩ | ⟨rfl, rfl⟩
    · skip
      refine aw_aload_n (x := ad 7 0 0) rfl dL_law_1398 ?_
      refine aw_aload_n (x := b) rfl dL_law_1399 ?_
      refine aw_iload (x := (nI i)) rfl dL_law_1400 ?_
      refine aw_iconst (v := 1) (by decide) dL_law_1402 ?_
      refine aw_iaddz (z := nI (i + 1)) (nI_add i 1) dL_law_1403 ?_
      refine aw_sld (v := xs (i + 1)) rfl (nI_in (by omega) (by omega)) (by rw [nI_clamp (by omega)]) dL_law_1404 ?_
      refine aw_aload_n (x := ad 16 0 0) rfl dL_law_1405 ?_
      refine aw_L (As := [.ref (ad 7 0 0), .int (xs (i + 1)), .ref (ad 16 0 0)]) (S := []) (lwx_mend_eI h7) fhL_mend wq787 wq788 rfl rfl (Nat.le_of_ble_eq_true rfl) (by decide) (by decide) hcc hcs dL_law_1406 ?_
      refine aw_istore (L2 := [some (.ref b), some (.ref (ad 7 0 0)), some (.ref (ad 14 0 0)), some (.ref (ad 16 0 0)), some (.int (nI i)), some (.int 1), none]) (Nat.le_of_ble_eq_true rfl) rfl rfl dL_law_1409 ?_
      refine aw_aload_n (x := ad 14 0 0) rfl dL_law_1411 ?_
      refine aw_aload_n (x := b) rfl dL_law_1412 ?_
      refine aw_iload (x := (nI i)) rfl dL_law_1413 ?_
      refine aw_iconst (v := 1) (by decide) dL_law_1415 ?_
      refine aw_iaddz (z := nI (i + 1)) (nI_add i 1) dL_law_1416 ?_
      refine aw_sld (v := xs (i + 1)) rfl (nI_in (by omega) (by omega)) (by rw [nI_clamp (by omega)]) dL_law_1417 ?_
      refine aw_0V (As := [.int (xs (i + 1))]) (S := []) (v := some (.int 0)) (o2 := (wd_w o 12 1 1)) h8 (mm_fit_of cbX8_mend (Nat.le_of_ble_eq_true rfl) (Nat.le_of_ble_eq_true rfl)) wq1139 cvX8_mend wv14 rfl rfl rfl (Nat.le_of_ble_eq_true rfl) rfl rfl hcc hcs rfl dL_law_1418 ?_
      refine aw_istore (L2 := [some (.ref b), some (.ref (ad 7 0 0)), some (.ref (ad 14 0 0)), some (.ref (ad 16 0 0)), some (.int (nI i)), some (.int 1), some (.int 0)]) (Nat.le_of_ble_eq_true rfl) rfl rfl dL_law_1421 ?_
      refine aw_aload_n (x := ad 14 0 0) rfl dL_law_1423 ?_
      refine aw_0V (As := []) (S := []) (v := some (.int 1)) (o2 := (wd_w o 12 1 1)) (thr_of (by rw [wd_get, if_pos ⟨rfl, rfl⟩])) (mm_fit_of cbX8_thrown (Nat.le_of_ble_eq_true rfl) (Nat.le_of_ble_eq_true rfl)) wq914 cvX8_thrown wv14 rfl rfl rfl (Nat.le_of_ble_eq_true rfl) rfl rfl hcc hcs rfl dL_law_1424 ?_
      refine aw_iload (x := 1) rfl dL_law_1427 ?_
      refine aw_icmp_eq (tgt := 1434) (by decide) dL_law_1429 (fun _ => ?_) (fun z => absurd rfl z)
      refine aw_iload (x := 1) rfl dL_law_1434 ?_
      refine aw_if_ne (tgt := 1451) (by decide) dL_law_1436 (fun _ => ?_) (fun z => absurd z (by decide))
      refine aw_goto (tgt := 1946) (by decide) dL_law_1451 ?_
      exact AW.locs (K _ n m c (R.w 1)) (lsub_keep (lsub_keep (lsub_keep (lsub_keep (lsub_keep (lsub_none (lsub_none lsub_nil)))))))
    · skip
      refine aw_aload_n (x := ad 7 0 0) rfl dL_law_1398 ?_
      refine aw_aload_n (x := b) rfl dL_law_1399 ?_
      refine aw_iload (x := (nI i)) rfl dL_law_1400 ?_
      refine aw_iconst (v := 1) (by decide) dL_law_1402 ?_
      refine aw_iaddz (z := nI (i + 1)) (nI_add i 1) dL_law_1403 ?_
      refine aw_sld (v := xs (i + 1)) rfl (nI_in (by omega) (by omega)) (by rw [nI_clamp (by omega)]) dL_law_1404 ?_
      refine aw_aload_n (x := ad 16 0 0) rfl dL_law_1405 ?_
      refine aw_L (As := [.ref (ad 7 0 0), .int (xs (i + 1)), .ref (ad 16 0 0)]) (S := []) (lwx_mend_eS h7) fhL_mend wq787 wq788 rfl rfl (Nat.le_of_ble_eq_true rfl) (by decide) (by decide) hcc hcs dL_law_1406 ?_
      refine aw_istore (L2 := [some (.ref b), some (.ref (ad 7 0 0)), some (.ref (ad 14 0 0)), some (.ref (ad 16 0 0)), some (.int (nI i)), some (.int 2), none]) (Nat.le_of_ble_eq_true rfl) rfl rfl dL_law_1409 ?_
      refine aw_aload_n (x := ad 14 0 0) rfl dL_law_1411 ?_
      refine aw_aload_n (x := b) rfl dL_law_1412 ?_
      refine aw_iload (x := (nI i)) rfl dL_law_1413 ?_
      refine aw_iconst (v := 1) (by decide) dL_law_1415 ?_
      refine aw_iaddz (z := nI (i + 1)) (nI_add i 1) dL_law_1416 ?_
      refine aw_sld (v := xs (i + 1)) rfl (nI_in (by omega) (by omega)) (by rw [nI_clamp (by omega)]) dL_law_1417 ?_
      refine aw_0V (As := [.int (xs (i + 1))]) (S := []) (v := some (.int 0)) (o2 := (wd_w o 12 1 2)) h8 (mm_fit_of cbX8_mend (Nat.le_of_ble_eq_true rfl) (Nat.le_of_ble_eq_true rfl)) wq1139 cvX8_mend wv14 rfl rfl rfl (Nat.le_of_ble_eq_true rfl) rfl rfl hcc hcs rfl dL_law_1418 ?_
      refine aw_istore (L2 := [some (.ref b), some (.ref (ad 7 0 0)), some (.ref (ad 14 0 0)), some (.ref (ad 16 0 0)), some (.int (nI i)), some (.int 2), some (.int 0)]) (Nat.le_of_ble_eq_true rfl) rfl rfl dL_law_1421 ?_
      refine aw_aload_n (x := ad 14 0 0) rfl dL_law_1423 ?_
      refine aw_0V (As := []) (S := []) (v := some (.int 2)) (o2 := (wd_w o 12 1 2)) (thr_of (by rw [wd_get, if_pos ⟨rfl, rfl⟩])) (mm_fit_of cbX8_thrown (Nat.le_of_ble_eq_true rfl) (Nat.le_of_ble_eq_true rfl)) wq914 cvX8_thrown wv14 rfl rfl rfl (Nat.le_of_ble_eq_true rfl) rfl rfl hcc hcs rfl dL_law_1424 ?_
      refine aw_iload (x := 2) rfl dL_law_1427 ?_
      refine aw_icmp_eq (tgt := 1434) (by decide) dL_law_1429 (fun _ => ?_) (fun z => absurd rfl z)
      refine aw_iload (x := 2) rfl dL_law_1434 ?_
      refine aw_if_ne (tgt := 1451) (by decide) dL_law_1436 (fun _ => ?_) (fun z => absurd z (by decide))
      refine aw_goto (tgt := 1946) (by decide) dL_law_1451 ?_
      exact AW.locs (K _ n m c (R.w 2)) (lsub_keep (lsub_keep (lsub_keep (lsub_keep (lsub_keep (lsub_none (lsub_none lsub_nil)))))))
theorem bk_22 {ad : Nat → Nat → Nat → Nat} {o : wd_S} {n m c b L i : Nat} {xs : Nat → Int32} {cc cs : Nat} {F : (Option Value ⊕ String) → wd_S → Prop} (hL : L ≤ 2048) (hi : i + 4 ≤ L) (R : Rel o n m c) (hcc : cc + 2 ≤ (mm_mo (ML_law b L xs)).cells) (hcs : cs + 12 ≤ (mm_mo (ML_law b L xs)).slots) (K : ∀ o2 n m c, Rel o2 n m c → AW ad (ML_law b L xs) 1946 [some (.ref b), some (.ref (ad 7 0 0)), some (.ref (ad 14 0 0)), some (.ref (ad 16 0 0)), some (.int (nI i)), none, none] [] o2 (cc + 2) (cs + 12) F) : AW ad (ML_law b L xs) 1454 [some (.ref b), some (.ref (ad 7 0 0)), some (.ref (ad 14 0 0)), some (.ref (ad 16 0 0)), some (.int (nI i)), none, none] [] o cc cs F := by
  rcases sp_isCut (ad := ad) R (x := xs (i + 1)) with ⟨v, o1, o2, h7, h8, hP, h12, hj, n2, m2, c2, R2⟩ | ⟨E, k, hE, h7, h8⟩
  · have hcmp : lg_cmp (o2.2.2 1) v.toInt64 = 0 := by rw [hj]; exact cmp_self _
    refine aw_aload_n (x := ad 7 0 0) rfl dL_law_1454 ?_
    refine aw_aload_n (x := b) rfl dL_law_1455 ?_
    refine aw_iload (x := (nI i)) rfl dL_law_1456 ?_
    refine aw_iconst (v := 1) (by decide) dL_law_1458 ?_
    refine aw_iaddz (z := nI (i + 1)) (nI_add i 1) dL_law_1459 ?_
    refine aw_sld (v := xs (i + 1)) rfl (nI_in (by omega) (by omega)) (by rw [nI_clamp (by omega)]) dL_law_1460 ?_
    refine aw_aload_n (x := ad 16 0 0) rfl dL_law_1461 ?_
    refine aw_L (As := [.ref (ad 7 0 0), .int (xs (i + 1)), .ref (ad 16 0 0)]) (S := []) (lwv_isCut h7 hP) fhL_isCut wq804 wq805 rfl rfl (Nat.le_of_ble_eq_true rfl) (by decide) (by decide) hcc hcs dL_law_1462 ?_
    refine aw_istore (L2 := [some (.ref b), some (.ref (ad 7 0 0)), some (.ref (ad 14 0 0)), some (.ref (ad 16 0 0)), some (.int (nI i)), some (.int 0), none]) (Nat.le_of_ble_eq_true rfl) rfl rfl dL_law_1465 ?_
    refine aw_aload_n (x := ad 14 0 0) rfl dL_law_1467 ?_
    refine aw_aload_n (x := b) rfl dL_law_1468 ?_
    refine aw_iload (x := (nI i)) rfl dL_law_1469 ?_
    refine aw_iconst (v := 1) (by decide) dL_law_1471 ?_
    refine aw_iaddz (z := nI (i + 1)) (nI_add i 1) dL_law_1472 ?_
    refine aw_sld (v := xs (i + 1)) rfl (nI_in (by omega) (by omega)) (by rw [nI_clamp (by omega)]) dL_law_1473 ?_
    refine aw_0V (As := [.int (xs (i + 1))]) (S := []) (v := some (.int v)) (o2 := o2) h8 (mm_fit_of cbX8_isCut (Nat.le_of_ble_eq_true rfl) (Nat.le_of_ble_eq_true rfl)) wq1143 cvX8_isCut wv14 rfl rfl rfl (Nat.le_of_ble_eq_true rfl) rfl rfl hcc hcs rfl dL_law_1474 ?_
    refine aw_istore (L2 := [some (.ref b), some (.ref (ad 7 0 0)), some (.ref (ad 14 0 0)), some (.ref (ad 16 0 0)), some (.int (nI i)), some (.int 0), some (.int v)]) (Nat.le_of_ble_eq_true rfl) rfl rfl dL_law_1477 ?_
    refine aw_aload_n (x := ad 14 0 0) rfl dL_law_1479 ?_
    refine aw_0V (As := []) (S := []) (v := some (.int 0)) (o2 := o2) (thr_of h12) (mm_fit_of cbX8_thrown (Nat.le_of_ble_eq_true rfl) (Nat.le_of_ble_eq_true rfl)) wq914 cvX8_thrown wv14 rfl rfl rfl (Nat.le_of_ble_eq_true rfl) rfl rfl hcc hcs rfl dL_law_1480 ?_
    refine aw_iload (x := 0) rfl dL_law_1483 ?_
    refine aw_icmp_eq (tgt := 1490) (by decide) dL_law_1485 (fun _ => ?_) (fun z => absurd rfl z)
    refine aw_iload (x := 0) rfl dL_law_1490 ?_
    refine aw_if_ne (tgt := 1514) (by decide) dL_law_1492 (fun z => absurd rfl z) (fun _ => ?_)
    refine aw_aload_n (x := ad 16 0 0) rfl dL_law_1495 ?_
    refine aw_iconst (v := 0) (by decide) dL_law_1496 ?_
    refine aw_lld rfl dL_law_1497 ?_
    refine aw_iload (x := v) rfl dL_law_1498 ?_
    by_cases hv0 : v = 0
    · have hcmp : lg_cmp (o2.2.2 1) 0 = 0 := by rw [hj, hv0]; exact cmp_self 0
      refine aw_if_eq (tgt := 1507) (by decide) dL_law_1500 (fun _ => ?_) (fun z => absurd hv0 z)
      refine aw_lconst (v := 0) (by decide) dL_law_1507 ?_
      refine aw_lcmp dL_law_1508 ?_
      refine aw_if_eq (tgt := 1514) (by decide) dL_law_1509 (fun _ => ?_) (fun z => absurd hcmp z)
      refine aw_goto (tgt := 1946) (by decide) dL_law_1514 ?_
      exact AW.locs (K o2 n2 m2 c2 R2) (lsub_keep (lsub_keep (lsub_keep (lsub_keep (lsub_keep (lsub_none (lsub_none lsub_nil)))))))
    · have hcmp : lg_cmp (o2.2.2 1) 1 = 0 := by rw [hj, hP.resolve_left hv0]; exact cmp_self 1
      refine aw_if_eq (tgt := 1507) (by decide) dL_law_1500 (fun z => absurd z hv0) (fun _ => ?_)
      refine aw_lconst (v := 1) (by decide) dL_law_1503 ?_
      refine aw_goto (tgt := 1508) (by decide) dL_law_1504 ?_
      refine aw_lcmp dL_law_1508 ?_
      refine aw_if_eq (tgt := 1514) (by decide) dL_law_1509 (fun _ => ?_) (fun z => absurd hcmp z)
      refine aw_goto (tgt := 1946) (by decide) dL_law_1514 ?_
      exact AW.locs (K o2 n2 m2 c2 R2) (lsub_keep (lsub_keep (lsub_keep (lsub_keep (lsub_keep (lsub_none (lsub_none lsub_nil)))))))
  · simp only [List.mem_cons, Prod.mk.injEq, List.not_mem_nil, or_false] at hE
    obtain ⟨rfl, rfl⟩ := hE
    refine aw_aload_n (x := ad 7 0 0) rfl dL_law_1454 ?_
    refine aw_aload_n (x := b) rfl dL_law_1455 ?_
    refine aw_iload (x := (nI i)) rfl dL_law_1456 ?_
    refine aw_iconst (v := 1) (by decide) dL_law_1458 ?_
    refine aw_iaddz (z := nI (i + 1)) (nI_add i 1) dL_law_1459 ?_
    refine aw_sld (v := xs (i + 1)) rfl (nI_in (by omega) (by omega)) (by rw [nI_clamp (by omega)]) dL_law_1460 ?_
    refine aw_aload_n (x := ad 16 0 0) rfl dL_law_1461 ?_
    refine aw_L (As := [.ref (ad 7 0 0), .int (xs (i + 1)), .ref (ad 16 0 0)]) (S := []) (lwx_isCut_eI h7) fhL_isCut wq804 wq805 rfl rfl (Nat.le_of_ble_eq_true rfl) (by decide) (by decide) hcc hcs dL_law_1462 ?_
    refine aw_istore (L2 := [some (.ref b), some (.ref (ad 7 0 0)), some (.ref (ad 14 0 0)), some (.ref (ad 16 0 0)), some (.int (nI i)), some (.int 1), none]) (Nat.le_of_ble_eq_true rfl) rfl rfl dL_law_1465 ?_
    refine aw_aload_n (x := ad 14 0 0) rfl dL_law_1467 ?_
    refine aw_aload_n (x := b) rfl dL_law_1468 ?_
    refine aw_iload (x := (nI i)) rfl dL_law_1469 ?_
    refine aw_iconst (v := 1) (by decide) dL_law_1471 ?_
    refine aw_iaddz (z := nI (i + 1)) (nI_add i 1) dL_law_1472 ?_
    refine aw_sld (v := xs (i + 1)) rfl (nI_in (by omega) (by omega)) (by rw [nI_clamp (by omega)]) dL_law_1473 ?_
    refine aw_0V (As := [.int (xs (i + 1))]) (S := []) (v := some (.int 0)) (o2 := (wd_w o 12 1 1)) h8 (mm_fit_of cbX8_isCut (Nat.le_of_ble_eq_true rfl) (Nat.le_of_ble_eq_true rfl)) wq1143 cvX8_isCut wv14 rfl rfl rfl (Nat.le_of_ble_eq_true rfl) rfl rfl hcc hcs rfl dL_law_1474 ?_
    refine aw_istore (L2 := [some (.ref b), some (.ref (ad 7 0 0)), some (.ref (ad 14 0 0)), some (.ref (ad 16 0 0)), some (.int (nI i)), some (.int 1), some (.int 0)]) (Nat.le_of_ble_eq_true rfl) rfl rfl dL_law_1477 ?_
    refine aw_aload_n (x := ad 14 0 0) rfl dL_law_1479 ?_
    refine aw_0V (As := []) (S := []) (v := some (.int 1)) (o2 := (wd_w o 12 1 1)) (thr_of (by rw [wd_get, if_pos ⟨rfl, rfl⟩])) (mm_fit_of cbX8_thrown (Nat.le_of_ble_eq_true rfl) (Nat.le_of_ble_eq_true rfl)) wq914 cvX8_thrown wv14 rfl rfl rfl (Nat.le_of_ble_eq_true rfl) rfl rfl hcc hcs rfl dL_law_1480 ?_
    refine aw_iload (x := 1) rfl dL_law_1483 ?_
    refine aw_icmp_eq (tgt := 1490) (by decide) dL_law_1485 (fun _ => ?_) (fun z => absurd rfl z)
    refine aw_iload (x := 1) rfl dL_law_1490 ?_
    refine aw_if_ne (tgt := 1514) (by decide) dL_law_1492 (fun _ => ?_) (fun z => absurd z (by decide))
    refine aw_goto (tgt := 1946) (by decide) dL_law_1514 ?_
    exact AW.locs (K _ n m c (R.w 1)) (lsub_keep (lsub_keep (lsub_keep (lsub_keep (lsub_keep (lsub_none (lsub_none lsub_nil)))))))
theorem bk_23 {ad : Nat → Nat → Nat → Nat} {o : wd_S} {n m c b L i : Nat} {xs : Nat → Int32} {cc cs : Nat} {F : (Option Value ⊕ String) → wd_S → Prop} (hL : L ≤ 2048) (hi : i + 4 ≤ L) (R : Rel o n m c) (hcc : cc + 2 ≤ (mm_mo (ML_law b L xs)).cells) (hcs : cs + 12 ≤ (mm_mo (ML_law b L xs)).slots) (K : ∀ o2 n m c, Rel o2 n m c → AW ad (ML_law b L xs) 1946 [some (.ref b), some (.ref (ad 7 0 0)), some (.ref (ad 14 0 0)), some (.ref (ad 16 0 0)), some (.int (nI i)), none, none] [] o2 (cc + 2) (cs + 12) F) : AW ad (ML_law b L xs) 1517 [some (.ref b), some (.ref (ad 7 0 0)), some (.ref (ad 14 0 0)), some (.ref (ad 16 0 0)), some (.int (nI i)), none, none] [] o cc cs F := by
  rcases sp_risk (ad := ad) R (x := xs (i + 1)) (k := xs (i + 2)) (r := xs (i + 3)) with ⟨v, o1, o2, h7, h8, hP, h12, hj, n2, m2, c2, R2⟩ | ⟨E, k, hE, h7, h8⟩
  · have hcmp : lg_cmp (o2.2.2 1) v.toInt64 = 0 := by rw [hj]; exact cmp_self _
    refine aw_aload_n (x := ad 7 0 0) rfl dL_law_1517 ?_
    refine aw_aload_n (x := b) rfl dL_law_1518 ?_
    refine aw_iload (x := (nI i)) rfl dL_law_1519 ?_
    refine aw_iconst (v := 1) (by decide) dL_law_1521 ?_
    refine aw_iaddz (z := nI (i + 1)) (nI_add i 1) dL_law_1522 ?_
    refine aw_sld (v := xs (i + 1)) rfl (nI_in (by omega) (by omega)) (by rw [nI_clamp (by omega)]) dL_law_1523 ?_
    refine aw_aload_n (x := b) rfl dL_law_1524 ?_
    refine aw_iload (x := (nI i)) rfl dL_law_1525 ?_
    refine aw_iconst (v := 2) (by decide) dL_law_1527 ?_
    refine aw_iaddz (z := nI (i + 2)) (nI_add i 2) dL_law_1528 ?_
    refine aw_sld (v := xs (i + 2)) rfl (nI_in (by omega) (by omega)) (by rw [nI_clamp (by omega)]) dL_law_1529 ?_
    refine aw_aload_n (x := b) rfl dL_law_1530 ?_
    refine aw_iload (x := (nI i)) rfl dL_law_1531 ?_
    refine aw_iconst (v := 3) (by decide) dL_law_1533 ?_
    refine aw_iaddz (z := nI (i + 3)) (nI_add i 3) dL_law_1534 ?_
    refine aw_sld (v := xs (i + 3)) rfl (nI_in (by omega) (by omega)) (by rw [nI_clamp (by omega)]) dL_law_1535 ?_
    refine aw_aload_n (x := ad 16 0 0) rfl dL_law_1536 ?_
    refine aw_L (As := [.ref (ad 7 0 0), .int (xs (i + 1)), .int (xs (i + 2)), .int (xs (i + 3)), .ref (ad 16 0 0)]) (S := []) (lwv_setRisk h7) fhL_setRisk wq812 wq813 rfl rfl (Nat.le_of_ble_eq_true rfl) (by decide) (by decide) hcc hcs dL_law_1537 ?_
    refine aw_istore (L2 := [some (.ref b), some (.ref (ad 7 0 0)), some (.ref (ad 14 0 0)), some (.ref (ad 16 0 0)), some (.int (nI i)), some (.int 0), none]) (Nat.le_of_ble_eq_true rfl) rfl rfl dL_law_1540 ?_
    refine aw_aload_n (x := ad 14 0 0) rfl dL_law_1542 ?_
    refine aw_aload_n (x := b) rfl dL_law_1543 ?_
    refine aw_iload (x := (nI i)) rfl dL_law_1544 ?_
    refine aw_iconst (v := 1) (by decide) dL_law_1546 ?_
    refine aw_iaddz (z := nI (i + 1)) (nI_add i 1) dL_law_1547 ?_
    refine aw_sld (v := xs (i + 1)) rfl (nI_in (by omega) (by omega)) (by rw [nI_clamp (by omega)]) dL_law_1548 ?_
    refine aw_aload_n (x := b) rfl dL_law_1549 ?_
    refine aw_iload (x := (nI i)) rfl dL_law_1550 ?_
    refine aw_iconst (v := 2) (by decide) dL_law_1552 ?_
    refine aw_iaddz (z := nI (i + 2)) (nI_add i 2) dL_law_1553 ?_
    refine aw_sld (v := xs (i + 2)) rfl (nI_in (by omega) (by omega)) (by rw [nI_clamp (by omega)]) dL_law_1554 ?_
    refine aw_aload_n (x := b) rfl dL_law_1555 ?_
    refine aw_iload (x := (nI i)) rfl dL_law_1556 ?_
    refine aw_iconst (v := 3) (by decide) dL_law_1558 ?_
    refine aw_iaddz (z := nI (i + 3)) (nI_add i 3) dL_law_1559 ?_
    refine aw_sld (v := xs (i + 3)) rfl (nI_in (by omega) (by omega)) (by rw [nI_clamp (by omega)]) dL_law_1560 ?_
    refine aw_0V (As := [.int (xs (i + 1)), .int (xs (i + 2)), .int (xs (i + 3))]) (S := []) (v := some (.int v)) (o2 := o2) h8 (mm_fit_of cbX8_setRisk (Nat.le_of_ble_eq_true rfl) (Nat.le_of_ble_eq_true rfl)) wq1147 cvX8_setRisk wv14 rfl rfl rfl (Nat.le_of_ble_eq_true rfl) rfl rfl hcc hcs rfl dL_law_1561 ?_
    refine aw_istore (L2 := [some (.ref b), some (.ref (ad 7 0 0)), some (.ref (ad 14 0 0)), some (.ref (ad 16 0 0)), some (.int (nI i)), some (.int 0), some (.int v)]) (Nat.le_of_ble_eq_true rfl) rfl rfl dL_law_1564 ?_
    refine aw_aload_n (x := ad 14 0 0) rfl dL_law_1566 ?_
    refine aw_0V (As := []) (S := []) (v := some (.int 0)) (o2 := o2) (thr_of h12) (mm_fit_of cbX8_thrown (Nat.le_of_ble_eq_true rfl) (Nat.le_of_ble_eq_true rfl)) wq914 cvX8_thrown wv14 rfl rfl rfl (Nat.le_of_ble_eq_true rfl) rfl rfl hcc hcs rfl dL_law_1567 ?_
    refine aw_iload (x := 0) rfl dL_law_1570 ?_
    refine aw_icmp_eq (tgt := 1577) (by decide) dL_law_1572 (fun _ => ?_) (fun z => absurd rfl z)
    refine aw_iload (x := 0) rfl dL_law_1577 ?_
    refine aw_if_ne (tgt := 1594) (by decide) dL_law_1579 (fun z => absurd rfl z) (fun _ => ?_)
    refine aw_aload_n (x := ad 16 0 0) rfl dL_law_1582 ?_
    refine aw_iconst (v := 0) (by decide) dL_law_1583 ?_
    refine aw_lld rfl dL_law_1584 ?_
    refine aw_iload (x := v) rfl dL_law_1585 ?_
    refine aw_i2l dL_law_1587 ?_
    refine aw_lcmp dL_law_1588 ?_
    refine aw_if_eq (tgt := 1594) (by decide) dL_law_1589 (fun _ => ?_) (fun z => absurd hcmp z)
    refine aw_goto (tgt := 1946) (by decide) dL_law_1594 ?_
    exact AW.locs (K o2 n2 m2 c2 R2) (lsub_keep (lsub_keep (lsub_keep (lsub_keep (lsub_keep (lsub_none (lsub_none lsub_nil)))))))
  · simp only [List.mem_cons, Prod.mk.injEq, List.not_mem_nil, or_false] at hE
    rcases hE with ⟨rfl, rfl⟩ | ⟨rfl, rfl⟩
    · skip
      refine aw_aload_n (x := ad 7 0 0) rfl dL_law_1517 ?_
      refine aw_aload_n (x := b) rfl dL_law_1518 ?_
      refine aw_iload (x := (nI i)) rfl dL_law_1519 ?_
      refine aw_iconst (v := 1) (by decide) dL_law_1521 ?_
      refine aw_iaddz (z := nI (i + 1)) (nI_add i 1) dL_law_1522 ?_
      refine aw_sld (v := xs (i + 1)) rfl (nI_in (by omega) (by omega)) (by rw [nI_clamp (by omega)]) dL_law_1523 ?_
      refine aw_aload_n (x := b) rfl dL_law_1524 ?_
      refine aw_iload (x := (nI i)) rfl dL_law_1525 ?_
      refine aw_iconst (v := 2) (by decide) dL_law_1527 ?_
      refine aw_iaddz (z := nI (i + 2)) (nI_add i 2) dL_law_1528 ?_
      refine aw_sld (v := xs (i + 2)) rfl (nI_in (by omega) (by omega)) (by rw [nI_clamp (by omega)]) dL_law_1529 ?_
      refine aw_aload_n (x := b) rfl dL_law_1530 ?_
      refine aw_iload (x := (nI i)) rfl dL_law_1531 ?_
      refine aw_iconst (v := 3) (by decide) dL_law_1533 ?_
      refine aw_iaddz (z := nI (i + 3)) (nI_add i 3) dL_law_1534 ?_
      refine aw_sld (v := xs (i + 3)) rfl (nI_in (by omega) (by omega)) (by rw [nI_clamp (by omega)]) dL_law_1535 ?_
      refine aw_aload_n (x := ad 16 0 0) rfl dL_law_1536 ?_
      refine aw_L (As := [.ref (ad 7 0 0), .int (xs (i + 1)), .int (xs (i + 2)), .int (xs (i + 3)), .ref (ad 16 0 0)]) (S := []) (lwx_setRisk_eI h7) fhL_setRisk wq812 wq813 rfl rfl (Nat.le_of_ble_eq_true rfl) (by decide) (by decide) hcc hcs dL_law_1537 ?_
      refine aw_istore (L2 := [some (.ref b), some (.ref (ad 7 0 0)), some (.ref (ad 14 0 0)), some (.ref (ad 16 0 0)), some (.int (nI i)), some (.int 1), none]) (Nat.le_of_ble_eq_true rfl) rfl rfl dL_law_1540 ?_
      refine aw_aload_n (x := ad 14 0 0) rfl dL_law_1542 ?_
      refine aw_aload_n (x := b) rfl dL_law_1543 ?_
      refine aw_iload (x := (nI i)) rfl dL_law_1544 ?_
      refine aw_iconst (v := 1) (by decide) dL_law_1546 ?_
      refine aw_iaddz (z := nI (i + 1)) (nI_add i 1) dL_law_1547 ?_
      refine aw_sld (v := xs (i + 1)) rfl (nI_in (by omega) (by omega)) (by rw [nI_clamp (by omega)]) dL_law_1548 ?_
      refine aw_aload_n (x := b) rfl dL_law_1549 ?_
      refine aw_iload (x := (nI i)) rfl dL_law_1550 ?_
      refine aw_iconst (v := 2) (by decide) dL_law_1552 ?_
      refine aw_iaddz (z := nI (i + 2)) (nI_add i 2) dL_law_1553 ?_
      refine aw_sld (v := xs (i + 2)) rfl (nI_in (by omega) (by omega)) (by rw [nI_clamp (by omega)]) dL_law_1554 ?_
      refine aw_aload_n (x := b) rfl dL_law_1555 ?_
      refine aw_iload (x := (nI i)) rfl dL_law_1556 ?_
      refine aw_iconst (v := 3) (by decide) dL_law_1558 ?_
      refine aw_iaddz (z := nI (i + 3)) (nI_add i 3) dL_law_1559 ?_
      refine aw_sld (v := xs (i + 3)) rfl (nI_in (by omega) (by omega)) (by rw [nI_clamp (by omega)]) dL_law_1560 ?_
      refine aw_0V (As := [.int (xs (i + 1)), .int (xs (i + 2)), .int (xs (i + 3))]) (S := []) (v := some (.int 0)) (o2 := (wd_w o 12 1 1)) h8 (mm_fit_of cbX8_setRisk (Nat.le_of_ble_eq_true rfl) (Nat.le_of_ble_eq_true rfl)) wq1147 cvX8_setRisk wv14 rfl rfl rfl (Nat.le_of_ble_eq_true rfl) rfl rfl hcc hcs rfl dL_law_1561 ?_
      refine aw_istore (L2 := [some (.ref b), some (.ref (ad 7 0 0)), some (.ref (ad 14 0 0)), some (.ref (ad 16 0 0)), some (.int (nI i)), some (.int 1), some (.int 0)]) (Nat.le_of_ble_eq_true rfl) rfl rfl dL_law_1564 ?_
      refine aw_aload_n (x := ad 14 0 0) rfl dL_law_1566 ?_
      refine aw_0V (As := []) (S := []) (v := some (.int 1)) (o2 := (wd_w o 12 1 1)) (thr_of (by rw [wd_get, if_pos ⟨rfl, rfl⟩])) (mm_fit_of cbX8_thrown (Nat.le_of_ble_eq_true rfl) (Nat.le_of_ble_eq_true rfl)) wq914 cvX8_thrown wv14 rfl rfl rfl (Nat.le_of_ble_eq_true rfl) rfl rfl hcc hcs rfl dL_law_1567 ?_
      refine aw_iload (x := 1) rfl dL_law_1570 ?_
      refine aw_icmp_eq (tgt := 1577) (by decide) dL_law_1572 (fun _ => ?_) (fun z => absurd rfl z)
      refine aw_iload (x := 1) rfl dL_law_1577 ?_
      refine aw_if_ne (tgt := 1594) (by decide) dL_law_1579 (fun _ => ?_) (fun z => absurd z (by decide))
      refine aw_goto (tgt := 1946) (by decide) dL_law_1594 ?_
      exact AW.locs (K _ n m c (R.w 1)) (lsub_keep (lsub_keep (lsub_keep (lsub_keep (lsub_keep (lsub_none (lsub_none lsub_nil)))))))
    · skip
      refine aw_aload_n (x := ad 7 0 0) rfl dL_law_1517 ?_
      refine aw_aload_n (x := b) rfl dL_law_1518 ?_
      refine aw_iload (x := (nI i)) rfl dL_law_1519 ?_
      refine aw_iconst (v := 1) (by decide) dL_law_1521 ?_
      refine aw_iaddz (z := nI (i + 1)) (nI_add i 1) dL_law_1522 ?_
      refine aw_sld (v := xs (i + 1)) rfl (nI_in (by omega) (by omega)) (by rw [nI_clamp (by omega)]) dL_law_1523 ?_
      refine aw_aload_n (x := b) rfl dL_law_1524 ?_
      refine aw_iload (x := (nI i)) rfl dL_law_1525 ?_
      refine aw_iconst (v := 2) (by decide) dL_law_1527 ?_
      refine aw_iaddz (z := nI (i + 2)) (nI_add i 2) dL_law_1528 ?_
      refine aw_sld (v := xs (i + 2)) rfl (nI_in (by omega) (by omega)) (by rw [nI_clamp (by omega)]) dL_law_1529 ?_
      refine aw_aload_n (x := b) rfl dL_law_1530 ?_
      refine aw_iload (x := (nI i)) rfl dL_law_1531 ?_
      refine aw_iconst (v := 3) (by decide) dL_law_1533 ?_
      refine aw_iaddz (z := nI (i + 3)) (nI_add i 3) dL_law_1534 ?_
      refine aw_sld (v := xs (i + 3)) rfl (nI_in (by omega) (by omega)) (by rw [nI_clamp (by omega)]) dL_law_1535 ?_
      refine aw_aload_n (x := ad 16 0 0) rfl dL_law_1536 ?_
      refine aw_L (As := [.ref (ad 7 0 0), .int (xs (i + 1)), .int (xs (i + 2)), .int (xs (i + 3)), .ref (ad 16 0 0)]) (S := []) (lwx_setRisk_eA h7) fhL_setRisk wq812 wq813 rfl rfl (Nat.le_of_ble_eq_true rfl) (by decide) (by decide) hcc hcs dL_law_1537 ?_
      refine aw_istore (L2 := [some (.ref b), some (.ref (ad 7 0 0)), some (.ref (ad 14 0 0)), some (.ref (ad 16 0 0)), some (.int (nI i)), some (.int 2), none]) (Nat.le_of_ble_eq_true rfl) rfl rfl dL_law_1540 ?_
      refine aw_aload_n (x := ad 14 0 0) rfl dL_law_1542 ?_
      refine aw_aload_n (x := b) rfl dL_law_1543 ?_
      refine aw_iload (x := (nI i)) rfl dL_law_1544 ?_
      refine aw_iconst (v := 1) (by decide) dL_law_1546 ?_
      refine aw_iaddz (z := nI (i + 1)) (nI_add i 1) dL_law_1547 ?_
      refine aw_sld (v := xs (i + 1)) rfl (nI_in (by omega) (by omega)) (by rw [nI_clamp (by omega)]) dL_law_1548 ?_
      refine aw_aload_n (x := b) rfl dL_law_1549 ?_
      refine aw_iload (x := (nI i)) rfl dL_law_1550 ?_
      refine aw_iconst (v := 2) (by decide) dL_law_1552 ?_
      refine aw_iaddz (z := nI (i + 2)) (nI_add i 2) dL_law_1553 ?_
      refine aw_sld (v := xs (i + 2)) rfl (nI_in (by omega) (by omega)) (by rw [nI_clamp (by omega)]) dL_law_1554 ?_
      refine aw_aload_n (x := b) rfl dL_law_1555 ?_
      refine aw_iload (x := (nI i)) rfl dL_law_1556 ?_
      refine aw_iconst (v := 3) (by decide) dL_law_1558 ?_
      refine aw_iaddz (z := nI (i + 3)) (nI_add i 3) dL_law_1559 ?_
      refine aw_sld (v := xs (i + 3)) rfl (nI_in (by omega) (by omega)) (by rw [nI_clamp (by omega)]) dL_law_1560 ?_
      refine aw_0V (As := [.int (xs (i + 1)), .int (xs (i + 2)), .int (xs (i + 3))]) (S := []) (v := some (.int 0)) (o2 := (wd_w o 12 1 2)) h8 (mm_fit_of cbX8_setRisk (Nat.le_of_ble_eq_true rfl) (Nat.le_of_ble_eq_true rfl)) wq1147 cvX8_setRisk wv14 rfl rfl rfl (Nat.le_of_ble_eq_true rfl) rfl rfl hcc hcs rfl dL_law_1561 ?_
      refine aw_istore (L2 := [some (.ref b), some (.ref (ad 7 0 0)), some (.ref (ad 14 0 0)), some (.ref (ad 16 0 0)), some (.int (nI i)), some (.int 2), some (.int 0)]) (Nat.le_of_ble_eq_true rfl) rfl rfl dL_law_1564 ?_
      refine aw_aload_n (x := ad 14 0 0) rfl dL_law_1566 ?_
      refine aw_0V (As := []) (S := []) (v := some (.int 2)) (o2 := (wd_w o 12 1 2)) (thr_of (by rw [wd_get, if_pos ⟨rfl, rfl⟩])) (mm_fit_of cbX8_thrown (Nat.le_of_ble_eq_true rfl) (Nat.le_of_ble_eq_true rfl)) wq914 cvX8_thrown wv14 rfl rfl rfl (Nat.le_of_ble_eq_true rfl) rfl rfl hcc hcs rfl dL_law_1567 ?_
      refine aw_iload (x := 2) rfl dL_law_1570 ?_
      refine aw_icmp_eq (tgt := 1577) (by decide) dL_law_1572 (fun _ => ?_) (fun z => absurd rfl z)
      refine aw_iload (x := 2) rfl dL_law_1577 ?_
      refine aw_if_ne (tgt := 1594) (by decide) dL_law_1579 (fun _ => ?_) (fun z => absurd z (by decide))
      refine aw_goto (tgt := 1946) (by decide) dL_law_1594 ?_
      exact AW.locs (K _ n m c (R.w 2)) (lsub_keep (lsub_keep (lsub_keep (lsub_keep (lsub_keep (lsub_none (lsub_none lsub_nil)))))))
theorem bk_24 {ad : Nat → Nat → Nat → Nat} {o : wd_S} {n m c b L i : Nat} {xs : Nat → Int32} {cc cs : Nat} {F : (Option Value ⊕ String) → wd_S → Prop} (hL : L ≤ 2048) (hi : i + 4 ≤ L) (R : Rel o n m c) (hcc : cc + 2 ≤ (mm_mo (ML_law b L xs)).cells) (hcs : cs + 12 ≤ (mm_mo (ML_law b L xs)).slots) (K : ∀ o2 n m c, Rel o2 n m c → AW ad (ML_law b L xs) 1946 [some (.ref b), some (.ref (ad 7 0 0)), some (.ref (ad 14 0 0)), some (.ref (ad 16 0 0)), some (.int (nI i)), none, none] [] o2 (cc + 2) (cs + 12) F) : AW ad (ML_law b L xs) 1597 [some (.ref b), some (.ref (ad 7 0 0)), some (.ref (ad 14 0 0)), some (.ref (ad 16 0 0)), some (.int (nI i)), none, none] [] o cc cs F := by
  rcases sp_test (ad := ad) R (x := xs (i + 1)) (k := xs (i + 2)) with ⟨v, o1, o2, h7, h8, hP, h12, hj, n2, m2, c2, R2⟩ | ⟨E, k, hE, h7, h8⟩
  · have hcmp : lg_cmp (o2.2.2 1) v.toInt64 = 0 := by rw [hj]; exact cmp_self _
    refine aw_aload_n (x := ad 7 0 0) rfl dL_law_1597 ?_
    refine aw_aload_n (x := b) rfl dL_law_1598 ?_
    refine aw_iload (x := (nI i)) rfl dL_law_1599 ?_
    refine aw_iconst (v := 1) (by decide) dL_law_1601 ?_
    refine aw_iaddz (z := nI (i + 1)) (nI_add i 1) dL_law_1602 ?_
    refine aw_sld (v := xs (i + 1)) rfl (nI_in (by omega) (by omega)) (by rw [nI_clamp (by omega)]) dL_law_1603 ?_
    refine aw_aload_n (x := b) rfl dL_law_1604 ?_
    refine aw_iload (x := (nI i)) rfl dL_law_1605 ?_
    refine aw_iconst (v := 2) (by decide) dL_law_1607 ?_
    refine aw_iaddz (z := nI (i + 2)) (nI_add i 2) dL_law_1608 ?_
    refine aw_sld (v := xs (i + 2)) rfl (nI_in (by omega) (by omega)) (by rw [nI_clamp (by omega)]) dL_law_1609 ?_
    refine aw_aload_n (x := ad 16 0 0) rfl dL_law_1610 ?_
    refine aw_L (As := [.ref (ad 7 0 0), .int (xs (i + 1)), .int (xs (i + 2)), .ref (ad 16 0 0)]) (S := []) (lwv_test h7 hP) fhL_test wq820 wq821 rfl rfl (Nat.le_of_ble_eq_true rfl) (by decide) (by decide) hcc hcs dL_law_1611 ?_
    refine aw_istore (L2 := [some (.ref b), some (.ref (ad 7 0 0)), some (.ref (ad 14 0 0)), some (.ref (ad 16 0 0)), some (.int (nI i)), some (.int 0), none]) (Nat.le_of_ble_eq_true rfl) rfl rfl dL_law_1614 ?_
    refine aw_aload_n (x := ad 14 0 0) rfl dL_law_1616 ?_
    refine aw_aload_n (x := b) rfl dL_law_1617 ?_
    refine aw_iload (x := (nI i)) rfl dL_law_1618 ?_
    refine aw_iconst (v := 1) (by decide) dL_law_1620 ?_
    refine aw_iaddz (z := nI (i + 1)) (nI_add i 1) dL_law_1621 ?_
    refine aw_sld (v := xs (i + 1)) rfl (nI_in (by omega) (by omega)) (by rw [nI_clamp (by omega)]) dL_law_1622 ?_
    refine aw_aload_n (x := b) rfl dL_law_1623 ?_
    refine aw_iload (x := (nI i)) rfl dL_law_1624 ?_
    refine aw_iconst (v := 2) (by decide) dL_law_1626 ?_
    refine aw_iaddz (z := nI (i + 2)) (nI_add i 2) dL_law_1627 ?_
    refine aw_sld (v := xs (i + 2)) rfl (nI_in (by omega) (by omega)) (by rw [nI_clamp (by omega)]) dL_law_1628 ?_
    refine aw_0V (As := [.int (xs (i + 1)), .int (xs (i + 2))]) (S := []) (v := some (.int v)) (o2 := o2) h8 (mm_fit_of cbX8_test (Nat.le_of_ble_eq_true rfl) (Nat.le_of_ble_eq_true rfl)) wq1151 cvX8_test wv14 rfl rfl rfl (Nat.le_of_ble_eq_true rfl) rfl rfl hcc hcs rfl dL_law_1629 ?_
    refine aw_istore (L2 := [some (.ref b), some (.ref (ad 7 0 0)), some (.ref (ad 14 0 0)), some (.ref (ad 16 0 0)), some (.int (nI i)), some (.int 0), some (.int v)]) (Nat.le_of_ble_eq_true rfl) rfl rfl dL_law_1632 ?_
    refine aw_aload_n (x := ad 14 0 0) rfl dL_law_1634 ?_
    refine aw_0V (As := []) (S := []) (v := some (.int 0)) (o2 := o2) (thr_of h12) (mm_fit_of cbX8_thrown (Nat.le_of_ble_eq_true rfl) (Nat.le_of_ble_eq_true rfl)) wq914 cvX8_thrown wv14 rfl rfl rfl (Nat.le_of_ble_eq_true rfl) rfl rfl hcc hcs rfl dL_law_1635 ?_
    refine aw_iload (x := 0) rfl dL_law_1638 ?_
    refine aw_icmp_eq (tgt := 1645) (by decide) dL_law_1640 (fun _ => ?_) (fun z => absurd rfl z)
    refine aw_iload (x := 0) rfl dL_law_1645 ?_
    refine aw_if_ne (tgt := 1669) (by decide) dL_law_1647 (fun z => absurd rfl z) (fun _ => ?_)
    refine aw_aload_n (x := ad 16 0 0) rfl dL_law_1650 ?_
    refine aw_iconst (v := 0) (by decide) dL_law_1651 ?_
    refine aw_lld rfl dL_law_1652 ?_
    refine aw_iload (x := v) rfl dL_law_1653 ?_
    by_cases hv0 : v = 0
    · have hcmp : lg_cmp (o2.2.2 1) 0 = 0 := by rw [hj, hv0]; exact cmp_self 0
      refine aw_if_eq (tgt := 1662) (by decide) dL_law_1655 (fun _ => ?_) (fun z => absurd hv0 z)
      refine aw_lconst (v := 0) (by decide) dL_law_1662 ?_
      refine aw_lcmp dL_law_1663 ?_
      refine aw_if_eq (tgt := 1669) (by decide) dL_law_1664 (fun _ => ?_) (fun z => absurd hcmp z)
      refine aw_goto (tgt := 1946) (by decide) dL_law_1669 ?_
      exact AW.locs (K o2 n2 m2 c2 R2) (lsub_keep (lsub_keep (lsub_keep (lsub_keep (lsub_keep (lsub_none (lsub_none lsub_nil)))))))
    · have hcmp : lg_cmp (o2.2.2 1) 1 = 0 := by rw [hj, hP.resolve_left hv0]; exact cmp_self 1
      refine aw_if_eq (tgt := 1662) (by decide) dL_law_1655 (fun z => absurd z hv0) (fun _ => ?_)
      refine aw_lconst (v := 1) (by decide) dL_law_1658 ?_
      refine aw_goto (tgt := 1663) (by decide) dL_law_1659 ?_
      refine aw_lcmp dL_law_1663 ?_
      refine aw_if_eq (tgt := 1669) (by decide) dL_law_1664 (fun _ => ?_) (fun z => absurd hcmp z)
      refine aw_goto (tgt := 1946) (by decide) dL_law_1669 ?_
      exact AW.locs (K o2 n2 m2 c2 R2) (lsub_keep (lsub_keep (lsub_keep (lsub_keep (lsub_keep (lsub_none (lsub_none lsub_nil)))))))
  · simp only [List.mem_cons, Prod.mk.injEq, List.not_mem_nil, or_false] at hE
    rcases hE with ⟨rfl, rfl⟩ | ⟨rfl, rfl⟩ | ⟨rfl, rfl⟩
    · skip
      refine aw_aload_n (x := ad 7 0 0) rfl dL_law_1597 ?_
      refine aw_aload_n (x := b) rfl dL_law_1598 ?_
      refine aw_iload (x := (nI i)) rfl dL_law_1599 ?_
      refine aw_iconst (v := 1) (by decide) dL_law_1601 ?_
      refine aw_iaddz (z := nI (i + 1)) (nI_add i 1) dL_law_1602 ?_
      refine aw_sld (v := xs (i + 1)) rfl (nI_in (by omega) (by omega)) (by rw [nI_clamp (by omega)]) dL_law_1603 ?_
      refine aw_aload_n (x := b) rfl dL_law_1604 ?_
      refine aw_iload (x := (nI i)) rfl dL_law_1605 ?_
      refine aw_iconst (v := 2) (by decide) dL_law_1607 ?_
      refine aw_iaddz (z := nI (i + 2)) (nI_add i 2) dL_law_1608 ?_
      refine aw_sld (v := xs (i + 2)) rfl (nI_in (by omega) (by omega)) (by rw [nI_clamp (by omega)]) dL_law_1609 ?_
      refine aw_aload_n (x := ad 16 0 0) rfl dL_law_1610 ?_
      refine aw_L (As := [.ref (ad 7 0 0), .int (xs (i + 1)), .int (xs (i + 2)), .ref (ad 16 0 0)]) (S := []) (lwx_test_eI h7) fhL_test wq820 wq821 rfl rfl (Nat.le_of_ble_eq_true rfl) (by decide) (by decide) hcc hcs dL_law_1611 ?_
      refine aw_istore (L2 := [some (.ref b), some (.ref (ad 7 0 0)), some (.ref (ad 14 0 0)), some (.ref (ad 16 0 0)), some (.int (nI i)), some (.int 1), none]) (Nat.le_of_ble_eq_true rfl) rfl rfl dL_law_1614 ?_
      refine aw_aload_n (x := ad 14 0 0) rfl dL_law_1616 ?_
      refine aw_aload_n (x := b) rfl dL_law_1617 ?_
      refine aw_iload (x := (nI i)) rfl dL_law_1618 ?_
      refine aw_iconst (v := 1) (by decide) dL_law_1620 ?_
      refine aw_iaddz (z := nI (i + 1)) (nI_add i 1) dL_law_1621 ?_
      refine aw_sld (v := xs (i + 1)) rfl (nI_in (by omega) (by omega)) (by rw [nI_clamp (by omega)]) dL_law_1622 ?_
      refine aw_aload_n (x := b) rfl dL_law_1623 ?_
      refine aw_iload (x := (nI i)) rfl dL_law_1624 ?_
      refine aw_iconst (v := 2) (by decide) dL_law_1626 ?_
      refine aw_iaddz (z := nI (i + 2)) (nI_add i 2) dL_law_1627 ?_
      refine aw_sld (v := xs (i + 2)) rfl (nI_in (by omega) (by omega)) (by rw [nI_clamp (by omega)]) dL_law_1628 ?_
      refine aw_0V (As := [.int (xs (i + 1)), .int (xs (i + 2))]) (S := []) (v := some (.int 0)) (o2 := (wd_w o 12 1 1)) h8 (mm_fit_of cbX8_test (Nat.le_of_ble_eq_true rfl) (Nat.le_of_ble_eq_true rfl)) wq1151 cvX8_test wv14 rfl rfl rfl (Nat.le_of_ble_eq_true rfl) rfl rfl hcc hcs rfl dL_law_1629 ?_
      refine aw_istore (L2 := [some (.ref b), some (.ref (ad 7 0 0)), some (.ref (ad 14 0 0)), some (.ref (ad 16 0 0)), some (.int (nI i)), some (.int 1), some (.int 0)]) (Nat.le_of_ble_eq_true rfl) rfl rfl dL_law_1632 ?_
      refine aw_aload_n (x := ad 14 0 0) rfl dL_law_1634 ?_
      refine aw_0V (As := []) (S := []) (v := some (.int 1)) (o2 := (wd_w o 12 1 1)) (thr_of (by rw [wd_get, if_pos ⟨rfl, rfl⟩])) (mm_fit_of cbX8_thrown (Nat.le_of_ble_eq_true rfl) (Nat.le_of_ble_eq_true rfl)) wq914 cvX8_thrown wv14 rfl rfl rfl (Nat.le_of_ble_eq_true rfl) rfl rfl hcc hcs rfl dL_law_1635 ?_
      refine aw_iload (x := 1) rfl dL_law_1638 ?_
      refine aw_icmp_eq (tgt := 1645) (by decide) dL_law_1640 (fun _ => ?_) (fun z => absurd rfl z)
      refine aw_iload (x := 1) rfl dL_law_1645 ?_
      refine aw_if_ne (tgt := 1669) (by decide) dL_law_1647 (fun _ => ?_) (fun z => absurd z (by decide))
      refine aw_goto (tgt := 1946) (by decide) dL_law_1669 ?_
      exact AW.locs (K _ n m c (R.w 1)) (lsub_keep (lsub_keep (lsub_keep (lsub_keep (lsub_keep (lsub_none (lsub_none lsub_nil)))))))
    · skip
      refine aw_aload_n (x := ad 7 0 0) rfl dL_law_1597 ?_
      refine aw_aload_n (x := b) rfl dL_law_1598 ?_
      refine aw_iload (x := (nI i)) rfl dL_law_1599 ?_
      refine aw_iconst (v := 1) (by decide) dL_law_1601 ?_
      refine aw_iaddz (z := nI (i + 1)) (nI_add i 1) dL_law_1602 ?_
      refine aw_sld (v := xs (i + 1)) rfl (nI_in (by omega) (by omega)) (by rw [nI_clamp (by omega)]) dL_law_1603 ?_
      refine aw_aload_n (x := b) rfl dL_law_1604 ?_
      refine aw_iload (x := (nI i)) rfl dL_law_1605 ?_
      refine aw_iconst (v := 2) (by decide) dL_law_1607 ?_
      refine aw_iaddz (z := nI (i + 2)) (nI_add i 2) dL_law_1608 ?_
      refine aw_sld (v := xs (i + 2)) rfl (nI_in (by omega) (by omega)) (by rw [nI_clamp (by omega)]) dL_law_1609 ?_
      refine aw_aload_n (x := ad 16 0 0) rfl dL_law_1610 ?_
      refine aw_L (As := [.ref (ad 7 0 0), .int (xs (i + 1)), .int (xs (i + 2)), .ref (ad 16 0 0)]) (S := []) (lwx_test_eA h7) fhL_test wq820 wq821 rfl rfl (Nat.le_of_ble_eq_true rfl) (by decide) (by decide) hcc hcs dL_law_1611 ?_
      refine aw_istore (L2 := [some (.ref b), some (.ref (ad 7 0 0)), some (.ref (ad 14 0 0)), some (.ref (ad 16 0 0)), some (.int (nI i)), some (.int 2), none]) (Nat.le_of_ble_eq_true rfl) rfl rfl dL_law_1614 ?_
      refine aw_aload_n (x := ad 14 0 0) rfl dL_law_1616 ?_
      refine aw_aload_n (x := b) rfl dL_law_1617 ?_
      refine aw_iload (x := (nI i)) rfl dL_law_1618 ?_
      refine aw_iconst (v := 1) (by decide) dL_law_1620 ?_
      refine aw_iaddz (z := nI (i + 1)) (nI_add i 1) dL_law_1621 ?_
      refine aw_sld (v := xs (i + 1)) rfl (nI_in (by omega) (by omega)) (by rw [nI_clamp (by omega)]) dL_law_1622 ?_
      refine aw_aload_n (x := b) rfl dL_law_1623 ?_
      refine aw_iload (x := (nI i)) rfl dL_law_1624 ?_
      refine aw_iconst (v := 2) (by decide) dL_law_1626 ?_
      refine aw_iaddz (z := nI (i + 2)) (nI_add i 2) dL_law_1627 ?_
      refine aw_sld (v := xs (i + 2)) rfl (nI_in (by omega) (by omega)) (by rw [nI_clamp (by omega)]) dL_law_1628 ?_
      refine aw_0V (As := [.int (xs (i + 1)), .int (xs (i + 2))]) (S := []) (v := some (.int 0)) (o2 := (wd_w o 12 1 2)) h8 (mm_fit_of cbX8_test (Nat.le_of_ble_eq_true rfl) (Nat.le_of_ble_eq_true rfl)) wq1151 cvX8_test wv14 rfl rfl rfl (Nat.le_of_ble_eq_true rfl) rfl rfl hcc hcs rfl dL_law_1629 ?_
      refine aw_istore (L2 := [some (.ref b), some (.ref (ad 7 0 0)), some (.ref (ad 14 0 0)), some (.ref (ad 16 0 0)), some (.int (nI i)), some (.int 2), some (.int 0)]) (Nat.le_of_ble_eq_true rfl) rfl rfl dL_law_1632 ?_
      refine aw_aload_n (x := ad 14 0 0) rfl dL_law_1634 ?_
      refine aw_0V (As := []) (S := []) (v := some (.int 2)) (o2 := (wd_w o 12 1 2)) (thr_of (by rw [wd_get, if_pos ⟨rfl, rfl⟩])) (mm_fit_of cbX8_thrown (Nat.le_of_ble_eq_true rfl) (Nat.le_of_ble_eq_true rfl)) wq914 cvX8_thrown wv14 rfl rfl rfl (Nat.le_of_ble_eq_true rfl) rfl rfl hcc hcs rfl dL_law_1635 ?_
      refine aw_iload (x := 2) rfl dL_law_1638 ?_
      refine aw_icmp_eq (tgt := 1645) (by decide) dL_law_1640 (fun _ => ?_) (fun z => absurd rfl z)
      refine aw_iload (x := 2) rfl dL_law_1645 ?_
      refine aw_if_ne (tgt := 1669) (by decide) dL_law_1647 (fun _ => ?_) (fun z => absurd z (by decide))
      refine aw_goto (tgt := 1946) (by decide) dL_law_1669 ?_
      exact AW.locs (K _ n m c (R.w 2)) (lsub_keep (lsub_keep (lsub_keep (lsub_keep (lsub_keep (lsub_none (lsub_none lsub_nil)))))))
    · skip
      refine aw_aload_n (x := ad 7 0 0) rfl dL_law_1597 ?_
      refine aw_aload_n (x := b) rfl dL_law_1598 ?_
      refine aw_iload (x := (nI i)) rfl dL_law_1599 ?_
      refine aw_iconst (v := 1) (by decide) dL_law_1601 ?_
      refine aw_iaddz (z := nI (i + 1)) (nI_add i 1) dL_law_1602 ?_
      refine aw_sld (v := xs (i + 1)) rfl (nI_in (by omega) (by omega)) (by rw [nI_clamp (by omega)]) dL_law_1603 ?_
      refine aw_aload_n (x := b) rfl dL_law_1604 ?_
      refine aw_iload (x := (nI i)) rfl dL_law_1605 ?_
      refine aw_iconst (v := 2) (by decide) dL_law_1607 ?_
      refine aw_iaddz (z := nI (i + 2)) (nI_add i 2) dL_law_1608 ?_
      refine aw_sld (v := xs (i + 2)) rfl (nI_in (by omega) (by omega)) (by rw [nI_clamp (by omega)]) dL_law_1609 ?_
      refine aw_aload_n (x := ad 16 0 0) rfl dL_law_1610 ?_
      refine aw_L (As := [.ref (ad 7 0 0), .int (xs (i + 1)), .int (xs (i + 2)), .ref (ad 16 0 0)]) (S := []) (lwx_test_eS h7) fhL_test wq820 wq821 rfl rfl (Nat.le_of_ble_eq_true rfl) (by decide) (by decide) hcc hcs dL_law_1611 ?_
      refine aw_istore (L2 := [some (.ref b), some (.ref (ad 7 0 0)), some (.ref (ad 14 0 0)), some (.ref (ad 16 0 0)), some (.int (nI i)), some (.int 3), none]) (Nat.le_of_ble_eq_true rfl) rfl rfl dL_law_1614 ?_
      refine aw_aload_n (x := ad 14 0 0) rfl dL_law_1616 ?_
      refine aw_aload_n (x := b) rfl dL_law_1617 ?_
      refine aw_iload (x := (nI i)) rfl dL_law_1618 ?_
      refine aw_iconst (v := 1) (by decide) dL_law_1620 ?_
      refine aw_iaddz (z := nI (i + 1)) (nI_add i 1) dL_law_1621 ?_
      refine aw_sld (v := xs (i + 1)) rfl (nI_in (by omega) (by omega)) (by rw [nI_clamp (by omega)]) dL_law_1622 ?_
      refine aw_aload_n (x := b) rfl dL_law_1623 ?_
      refine aw_iload (x := (nI i)) rfl dL_law_1624 ?_
      refine aw_iconst (v := 2) (by decide) dL_law_1626 ?_
      refine aw_iaddz (z := nI (i + 2)) (nI_add i 2) dL_law_1627 ?_
      refine aw_sld (v := xs (i + 2)) rfl (nI_in (by omega) (by omega)) (by rw [nI_clamp (by omega)]) dL_law_1628 ?_
      refine aw_0V (As := [.int (xs (i + 1)), .int (xs (i + 2))]) (S := []) (v := some (.int 0)) (o2 := (wd_w o 12 1 3)) h8 (mm_fit_of cbX8_test (Nat.le_of_ble_eq_true rfl) (Nat.le_of_ble_eq_true rfl)) wq1151 cvX8_test wv14 rfl rfl rfl (Nat.le_of_ble_eq_true rfl) rfl rfl hcc hcs rfl dL_law_1629 ?_
      refine aw_istore (L2 := [some (.ref b), some (.ref (ad 7 0 0)), some (.ref (ad 14 0 0)), some (.ref (ad 16 0 0)), some (.int (nI i)), some (.int 3), some (.int 0)]) (Nat.le_of_ble_eq_true rfl) rfl rfl dL_law_1632 ?_
      refine aw_aload_n (x := ad 14 0 0) rfl dL_law_1634 ?_
      refine aw_0V (As := []) (S := []) (v := some (.int 3)) (o2 := (wd_w o 12 1 3)) (thr_of (by rw [wd_get, if_pos ⟨rfl, rfl⟩])) (mm_fit_of cbX8_thrown (Nat.le_of_ble_eq_true rfl) (Nat.le_of_ble_eq_true rfl)) wq914 cvX8_thrown wv14 rfl rfl rfl (Nat.le_of_ble_eq_true rfl) rfl rfl hcc hcs rfl dL_law_1635 ?_
      refine aw_iload (x := 3) rfl dL_law_1638 ?_
      refine aw_icmp_eq (tgt := 1645) (by decide) dL_law_1640 (fun _ => ?_) (fun z => absurd rfl z)
      refine aw_iload (x := 3) rfl dL_law_1645 ?_
      refine aw_if_ne (tgt := 1669) (by decide) dL_law_1647 (fun _ => ?_) (fun z => absurd z (by decide))
      refine aw_goto (tgt := 1946) (by decide) dL_law_1669 ?_
      exact AW.locs (K _ n m c (R.w 3)) (lsub_keep (lsub_keep (lsub_keep (lsub_keep (lsub_keep (lsub_none (lsub_none lsub_nil)))))))
theorem bk_25 {ad : Nat → Nat → Nat → Nat} {o : wd_S} {n m c b L i : Nat} {xs : Nat → Int32} {cc cs : Nat} {F : (Option Value ⊕ String) → wd_S → Prop} (hL : L ≤ 2048) (hi : i + 4 ≤ L) (R : Rel o n m c) (hcc : cc + 2 ≤ (mm_mo (ML_law b L xs)).cells) (hcs : cs + 12 ≤ (mm_mo (ML_law b L xs)).slots) (K : ∀ o2 n m c, Rel o2 n m c → AW ad (ML_law b L xs) 1946 [some (.ref b), some (.ref (ad 7 0 0)), some (.ref (ad 14 0 0)), some (.ref (ad 16 0 0)), some (.int (nI i)), none, none] [] o2 (cc + 2) (cs + 12) F) : AW ad (ML_law b L xs) 1672 [some (.ref b), some (.ref (ad 7 0 0)), some (.ref (ad 14 0 0)), some (.ref (ad 16 0 0)), some (.int (nI i)), none, none] [] o cc cs F := by
  rcases sp_tcost (ad := ad) R (x := xs (i + 1)) (y := xs (i + 2)) (z := xs (i + 3)) with ⟨v, o1, o2, h7, h8, hP, h12, hj, n2, m2, c2, R2⟩ | ⟨E, k, hE, h7, h8⟩
  · have hcmp : lg_cmp (o2.2.2 1) v.toInt64 = 0 := by rw [hj]; exact cmp_self _
    refine aw_aload_n (x := ad 7 0 0) rfl dL_law_1672 ?_
    refine aw_aload_n (x := b) rfl dL_law_1673 ?_
    refine aw_iload (x := (nI i)) rfl dL_law_1674 ?_
    refine aw_iconst (v := 1) (by decide) dL_law_1676 ?_
    refine aw_iaddz (z := nI (i + 1)) (nI_add i 1) dL_law_1677 ?_
    refine aw_sld (v := xs (i + 1)) rfl (nI_in (by omega) (by omega)) (by rw [nI_clamp (by omega)]) dL_law_1678 ?_
    refine aw_aload_n (x := b) rfl dL_law_1679 ?_
    refine aw_iload (x := (nI i)) rfl dL_law_1680 ?_
    refine aw_iconst (v := 2) (by decide) dL_law_1682 ?_
    refine aw_iaddz (z := nI (i + 2)) (nI_add i 2) dL_law_1683 ?_
    refine aw_sld (v := xs (i + 2)) rfl (nI_in (by omega) (by omega)) (by rw [nI_clamp (by omega)]) dL_law_1684 ?_
    refine aw_aload_n (x := b) rfl dL_law_1685 ?_
    refine aw_iload (x := (nI i)) rfl dL_law_1686 ?_
    refine aw_iconst (v := 3) (by decide) dL_law_1688 ?_
    refine aw_iaddz (z := nI (i + 3)) (nI_add i 3) dL_law_1689 ?_
    refine aw_sld (v := xs (i + 3)) rfl (nI_in (by omega) (by omega)) (by rw [nI_clamp (by omega)]) dL_law_1690 ?_
    refine aw_aload_n (x := ad 16 0 0) rfl dL_law_1691 ?_
    refine aw_L (As := [.ref (ad 7 0 0), .int (xs (i + 1)), .int (xs (i + 2)), .int (xs (i + 3)), .ref (ad 16 0 0)]) (S := []) (lwv_testCost h7) fhL_testCost wq828 wq829 rfl rfl (Nat.le_of_ble_eq_true rfl) (by decide) (by decide) hcc hcs dL_law_1692 ?_
    refine aw_istore (L2 := [some (.ref b), some (.ref (ad 7 0 0)), some (.ref (ad 14 0 0)), some (.ref (ad 16 0 0)), some (.int (nI i)), some (.int 0), none]) (Nat.le_of_ble_eq_true rfl) rfl rfl dL_law_1695 ?_
    refine aw_aload_n (x := ad 14 0 0) rfl dL_law_1697 ?_
    refine aw_aload_n (x := b) rfl dL_law_1698 ?_
    refine aw_iload (x := (nI i)) rfl dL_law_1699 ?_
    refine aw_iconst (v := 1) (by decide) dL_law_1701 ?_
    refine aw_iaddz (z := nI (i + 1)) (nI_add i 1) dL_law_1702 ?_
    refine aw_sld (v := xs (i + 1)) rfl (nI_in (by omega) (by omega)) (by rw [nI_clamp (by omega)]) dL_law_1703 ?_
    refine aw_aload_n (x := b) rfl dL_law_1704 ?_
    refine aw_iload (x := (nI i)) rfl dL_law_1705 ?_
    refine aw_iconst (v := 2) (by decide) dL_law_1707 ?_
    refine aw_iaddz (z := nI (i + 2)) (nI_add i 2) dL_law_1708 ?_
    refine aw_sld (v := xs (i + 2)) rfl (nI_in (by omega) (by omega)) (by rw [nI_clamp (by omega)]) dL_law_1709 ?_
    refine aw_aload_n (x := b) rfl dL_law_1710 ?_
    refine aw_iload (x := (nI i)) rfl dL_law_1711 ?_
    refine aw_iconst (v := 3) (by decide) dL_law_1713 ?_
    refine aw_iaddz (z := nI (i + 3)) (nI_add i 3) dL_law_1714 ?_
    refine aw_sld (v := xs (i + 3)) rfl (nI_in (by omega) (by omega)) (by rw [nI_clamp (by omega)]) dL_law_1715 ?_
    refine aw_0V (As := [.int (xs (i + 1)), .int (xs (i + 2)), .int (xs (i + 3))]) (S := []) (v := some (.int v)) (o2 := o2) h8 (mm_fit_of cbX8_testCost (Nat.le_of_ble_eq_true rfl) (Nat.le_of_ble_eq_true rfl)) wq1155 cvX8_testCost wv14 rfl rfl rfl (Nat.le_of_ble_eq_true rfl) rfl rfl hcc hcs rfl dL_law_1716 ?_
    refine aw_istore (L2 := [some (.ref b), some (.ref (ad 7 0 0)), some (.ref (ad 14 0 0)), some (.ref (ad 16 0 0)), some (.int (nI i)), some (.int 0), some (.int v)]) (Nat.le_of_ble_eq_true rfl) rfl rfl dL_law_1719 ?_
    refine aw_aload_n (x := ad 14 0 0) rfl dL_law_1721 ?_
    refine aw_0V (As := []) (S := []) (v := some (.int 0)) (o2 := o2) (thr_of h12) (mm_fit_of cbX8_thrown (Nat.le_of_ble_eq_true rfl) (Nat.le_of_ble_eq_true rfl)) wq914 cvX8_thrown wv14 rfl rfl rfl (Nat.le_of_ble_eq_true rfl) rfl rfl hcc hcs rfl dL_law_1722 ?_
    refine aw_iload (x := 0) rfl dL_law_1725 ?_
    refine aw_icmp_eq (tgt := 1732) (by decide) dL_law_1727 (fun _ => ?_) (fun z => absurd rfl z)
    refine aw_iload (x := 0) rfl dL_law_1732 ?_
    refine aw_if_ne (tgt := 1749) (by decide) dL_law_1734 (fun z => absurd rfl z) (fun _ => ?_)
    refine aw_aload_n (x := ad 16 0 0) rfl dL_law_1737 ?_
    refine aw_iconst (v := 0) (by decide) dL_law_1738 ?_
    refine aw_lld rfl dL_law_1739 ?_
    refine aw_iload (x := v) rfl dL_law_1740 ?_
    refine aw_i2l dL_law_1742 ?_
    refine aw_lcmp dL_law_1743 ?_
    refine aw_if_eq (tgt := 1749) (by decide) dL_law_1744 (fun _ => ?_) (fun z => absurd hcmp z)
    refine aw_goto (tgt := 1946) (by decide) dL_law_1749 ?_
    exact AW.locs (K o2 n2 m2 c2 R2) (lsub_keep (lsub_keep (lsub_keep (lsub_keep (lsub_keep (lsub_none (lsub_none lsub_nil)))))))
  · simp only [List.mem_cons, Prod.mk.injEq, List.not_mem_nil, or_false] at hE
    rcases hE with ⟨rfl, rfl⟩ | ⟨rfl, rfl⟩
    · skip
      refine aw_aload_n (x := ad 7 0 0) rfl dL_law_1672 ?_
      refine aw_aload_n (x := b) rfl dL_law_1673 ?_
      refine aw_iload (x := (nI i)) rfl dL_law_1674 ?_
      refine aw_iconst (v := 1) (by decide) dL_law_1676 ?_
      refine aw_iaddz (z := nI (i + 1)) (nI_add i 1) dL_law_1677 ?_
      refine aw_sld (v := xs (i + 1)) rfl (nI_in (by omega) (by omega)) (by rw [nI_clamp (by omega)]) dL_law_1678 ?_
      refine aw_aload_n (x := b) rfl dL_law_1679 ?_
      refine aw_iload (x := (nI i)) rfl dL_law_1680 ?_
      refine aw_iconst (v := 2) (by decide) dL_law_1682 ?_
      refine aw_iaddz (z := nI (i + 2)) (nI_add i 2) dL_law_1683 ?_
      refine aw_sld (v := xs (i + 2)) rfl (nI_in (by omega) (by omega)) (by rw [nI_clamp (by omega)]) dL_law_1684 ?_
      refine aw_aload_n (x := b) rfl dL_law_1685 ?_
      refine aw_iload (x := (nI i)) rfl dL_law_1686 ?_
      refine aw_iconst (v := 3) (by decide) dL_law_1688 ?_
      refine aw_iaddz (z := nI (i + 3)) (nI_add i 3) dL_law_1689 ?_
      refine aw_sld (v := xs (i + 3)) rfl (nI_in (by omega) (by omega)) (by rw [nI_clamp (by omega)]) dL_law_1690 ?_
      refine aw_aload_n (x := ad 16 0 0) rfl dL_law_1691 ?_
      refine aw_L (As := [.ref (ad 7 0 0), .int (xs (i + 1)), .int (xs (i + 2)), .int (xs (i + 3)), .ref (ad 16 0 0)]) (S := []) (lwx_testCost_eI h7) fhL_testCost wq828 wq829 rfl rfl (Nat.le_of_ble_eq_true rfl) (by decide) (by decide) hcc hcs dL_law_1692 ?_
      refine aw_istore (L2 := [some (.ref b), some (.ref (ad 7 0 0)), some (.ref (ad 14 0 0)), some (.ref (ad 16 0 0)), some (.int (nI i)), some (.int 1), none]) (Nat.le_of_ble_eq_true rfl) rfl rfl dL_law_1695 ?_
      refine aw_aload_n (x := ad 14 0 0) rfl dL_law_1697 ?_
      refine aw_aload_n (x := b) rfl dL_law_1698 ?_
      refine aw_iload (x := (nI i)) rfl dL_law_1699 ?_
      refine aw_iconst (v := 1) (by decide) dL_law_1701 ?_
      refine aw_iaddz (z := nI (i + 1)) (nI_add i 1) dL_law_1702 ?_
      refine aw_sld (v := xs (i + 1)) rfl (nI_in (by omega) (by omega)) (by rw [nI_clamp (by omega)]) dL_law_1703 ?_
      refine aw_aload_n (x := b) rfl dL_law_1704 ?_
      refine aw_iload (x := (nI i)) rfl dL_law_1705 ?_
      refine aw_iconst (v := 2) (by decide) dL_law_1707 ?_
      refine aw_iaddz (z := nI (i + 2)) (nI_add i 2) dL_law_1708 ?_
      refine aw_sld (v := xs (i + 2)) rfl (nI_in (by omega) (by omega)) (by rw [nI_clamp (by omega)]) dL_law_1709 ?_
      refine aw_aload_n (x := b) rfl dL_law_1710 ?_
      refine aw_iload (x := (nI i)) rfl dL_law_1711 ?_
      refine aw_iconst (v := 3) (by decide) dL_law_1713 ?_
      refine aw_iaddz (z := nI (i + 3)) (nI_add i 3) dL_law_1714 ?_
      refine aw_sld (v := xs (i + 3)) rfl (nI_in (by omega) (by omega)) (by rw [nI_clamp (by omega)]) dL_law_1715 ?_
      refine aw_0V (As := [.int (xs (i + 1)), .int (xs (i + 2)), .int (xs (i + 3))]) (S := []) (v := some (.int 0)) (o2 := (wd_w o 12 1 1)) h8 (mm_fit_of cbX8_testCost (Nat.le_of_ble_eq_true rfl) (Nat.le_of_ble_eq_true rfl)) wq1155 cvX8_testCost wv14 rfl rfl rfl (Nat.le_of_ble_eq_true rfl) rfl rfl hcc hcs rfl dL_law_1716 ?_
      refine aw_istore (L2 := [some (.ref b), some (.ref (ad 7 0 0)), some (.ref (ad 14 0 0)), some (.ref (ad 16 0 0)), some (.int (nI i)), some (.int 1), some (.int 0)]) (Nat.le_of_ble_eq_true rfl) rfl rfl dL_law_1719 ?_
      refine aw_aload_n (x := ad 14 0 0) rfl dL_law_1721 ?_
      refine aw_0V (As := []) (S := []) (v := some (.int 1)) (o2 := (wd_w o 12 1 1)) (thr_of (by rw [wd_get, if_pos ⟨rfl, rfl⟩])) (mm_fit_of cbX8_thrown (Nat.le_of_ble_eq_true rfl) (Nat.le_of_ble_eq_true rfl)) wq914 cvX8_thrown wv14 rfl rfl rfl (Nat.le_of_ble_eq_true rfl) rfl rfl hcc hcs rfl dL_law_1722 ?_
      refine aw_iload (x := 1) rfl dL_law_1725 ?_
      refine aw_icmp_eq (tgt := 1732) (by decide) dL_law_1727 (fun _ => ?_) (fun z => absurd rfl z)
      refine aw_iload (x := 1) rfl dL_law_1732 ?_
      refine aw_if_ne (tgt := 1749) (by decide) dL_law_1734 (fun _ => ?_) (fun z => absurd z (by decide))
      refine aw_goto (tgt := 1946) (by decide) dL_law_1749 ?_
      exact AW.locs (K _ n m c (R.w 1)) (lsub_keep (lsub_keep (lsub_keep (lsub_keep (lsub_keep (lsub_none (lsub_none lsub_nil)))))))
    · skip
      refine aw_aload_n (x := ad 7 0 0) rfl dL_law_1672 ?_
      refine aw_aload_n (x := b) rfl dL_law_1673 ?_
      refine aw_iload (x := (nI i)) rfl dL_law_1674 ?_
      refine aw_iconst (v := 1) (by decide) dL_law_1676 ?_
      refine aw_iaddz (z := nI (i + 1)) (nI_add i 1) dL_law_1677 ?_
      refine aw_sld (v := xs (i + 1)) rfl (nI_in (by omega) (by omega)) (by rw [nI_clamp (by omega)]) dL_law_1678 ?_
      refine aw_aload_n (x := b) rfl dL_law_1679 ?_
      refine aw_iload (x := (nI i)) rfl dL_law_1680 ?_
      refine aw_iconst (v := 2) (by decide) dL_law_1682 ?_
      refine aw_iaddz (z := nI (i + 2)) (nI_add i 2) dL_law_1683 ?_
      refine aw_sld (v := xs (i + 2)) rfl (nI_in (by omega) (by omega)) (by rw [nI_clamp (by omega)]) dL_law_1684 ?_
      refine aw_aload_n (x := b) rfl dL_law_1685 ?_
      refine aw_iload (x := (nI i)) rfl dL_law_1686 ?_
      refine aw_iconst (v := 3) (by decide) dL_law_1688 ?_
      refine aw_iaddz (z := nI (i + 3)) (nI_add i 3) dL_law_1689 ?_
      refine aw_sld (v := xs (i + 3)) rfl (nI_in (by omega) (by omega)) (by rw [nI_clamp (by omega)]) dL_law_1690 ?_
      refine aw_aload_n (x := ad 16 0 0) rfl dL_law_1691 ?_
      refine aw_L (As := [.ref (ad 7 0 0), .int (xs (i + 1)), .int (xs (i + 2)), .int (xs (i + 3)), .ref (ad 16 0 0)]) (S := []) (lwx_testCost_eA h7) fhL_testCost wq828 wq829 rfl rfl (Nat.le_of_ble_eq_true rfl) (by decide) (by decide) hcc hcs dL_law_1692 ?_
      refine aw_istore (L2 := [some (.ref b), some (.ref (ad 7 0 0)), some (.ref (ad 14 0 0)), some (.ref (ad 16 0 0)), some (.int (nI i)), some (.int 2), none]) (Nat.le_of_ble_eq_true rfl) rfl rfl dL_law_1695 ?_
      refine aw_aload_n (x := ad 14 0 0) rfl dL_law_1697 ?_
      refine aw_aload_n (x := b) rfl dL_law_1698 ?_
      refine aw_iload (x := (nI i)) rfl dL_law_1699 ?_
      refine aw_iconst (v := 1) (by decide) dL_law_1701 ?_
      refine aw_iaddz (z := nI (i + 1)) (nI_add i 1) dL_law_1702 ?_
      refine aw_sld (v := xs (i + 1)) rfl (nI_in (by omega) (by omega)) (by rw [nI_clamp (by omega)]) dL_law_1703 ?_
      refine aw_aload_n (x := b) rfl dL_law_1704 ?_
      refine aw_iload (x := (nI i)) rfl dL_law_1705 ?_
      refine aw_iconst (v := 2) (by decide) dL_law_1707 ?_
      refine aw_iaddz (z := nI (i + 2)) (nI_add i 2) dL_law_1708 ?_
      refine aw_sld (v := xs (i + 2)) rfl (nI_in (by omega) (by omega)) (by rw [nI_clamp (by omega)]) dL_law_1709 ?_
      refine aw_aload_n (x := b) rfl dL_law_1710 ?_
      refine aw_iload (x := (nI i)) rfl dL_law_1711 ?_
      refine aw_iconst (v := 3) (by decide) dL_law_1713 ?_
      refine aw_iaddz (z := nI (i + 3)) (nI_add i 3) dL_law_1714 ?_
      refine aw_sld (v := xs (i + 3)) rfl (nI_in (by omega) (by omega)) (by rw [nI_clamp (by omega)]) dL_law_1715 ?_
      refine aw_0V (As := [.int (xs (i + 1)), .int (xs (i + 2)), .int (xs (i + 3))]) (S := []) (v := some (.int 0)) (o2 := (wd_w o 12 1 2)) h8 (mm_fit_of cbX8_testCost (Nat.le_of_ble_eq_true rfl) (Nat.le_of_ble_eq_true rfl)) wq1155 cvX8_testCost wv14 rfl rfl rfl (Nat.le_of_ble_eq_true rfl) rfl rfl hcc hcs rfl dL_law_1716 ?_
      refine aw_istore (L2 := [some (.ref b), some (.ref (ad 7 0 0)), some (.ref (ad 14 0 0)), some (.ref (ad 16 0 0)), some (.int (nI i)), some (.int 2), some (.int 0)]) (Nat.le_of_ble_eq_true rfl) rfl rfl dL_law_1719 ?_
      refine aw_aload_n (x := ad 14 0 0) rfl dL_law_1721 ?_
      refine aw_0V (As := []) (S := []) (v := some (.int 2)) (o2 := (wd_w o 12 1 2)) (thr_of (by rw [wd_get, if_pos ⟨rfl, rfl⟩])) (mm_fit_of cbX8_thrown (Nat.le_of_ble_eq_true rfl) (Nat.le_of_ble_eq_true rfl)) wq914 cvX8_thrown wv14 rfl rfl rfl (Nat.le_of_ble_eq_true rfl) rfl rfl hcc hcs rfl dL_law_1722 ?_
      refine aw_iload (x := 2) rfl dL_law_1725 ?_
      refine aw_icmp_eq (tgt := 1732) (by decide) dL_law_1727 (fun _ => ?_) (fun z => absurd rfl z)
      refine aw_iload (x := 2) rfl dL_law_1732 ?_
      refine aw_if_ne (tgt := 1749) (by decide) dL_law_1734 (fun _ => ?_) (fun z => absurd z (by decide))
      refine aw_goto (tgt := 1946) (by decide) dL_law_1749 ?_
      exact AW.locs (K _ n m c (R.w 2)) (lsub_keep (lsub_keep (lsub_keep (lsub_keep (lsub_keep (lsub_none (lsub_none lsub_nil)))))))
theorem bk_26 {ad : Nat → Nat → Nat → Nat} {o : wd_S} {n m c b L i : Nat} {xs : Nat → Int32} {cc cs : Nat} {F : (Option Value ⊕ String) → wd_S → Prop} (hL : L ≤ 2048) (hi : i + 4 ≤ L) (R : Rel o n m c) (hcc : cc + 2 ≤ (mm_mo (ML_law b L xs)).cells) (hcs : cs + 12 ≤ (mm_mo (ML_law b L xs)).slots) (K : ∀ o2 n m c, Rel o2 n m c → AW ad (ML_law b L xs) 1946 [some (.ref b), some (.ref (ad 7 0 0)), some (.ref (ad 14 0 0)), some (.ref (ad 16 0 0)), some (.int (nI i)), none, none] [] o2 (cc + 2) (cs + 12) F) : AW ad (ML_law b L xs) 1752 [some (.ref b), some (.ref (ad 7 0 0)), some (.ref (ad 14 0 0)), some (.ref (ad 16 0 0)), some (.int (nI i)), none, none] [] o cc cs F := by
  rcases sp_tbest (ad := ad) R (x := xs (i + 1)) (y := xs (i + 2)) (z := xs (i + 3)) with ⟨v, o1, o2, h7, h8, hP, h12, hj, n2, m2, c2, R2⟩ | ⟨E, k, hE, h7, h8⟩
  · have hcmp : lg_cmp (o2.2.2 1) v.toInt64 = 0 := by rw [hj]; exact cmp_self _
    refine aw_aload_n (x := ad 7 0 0) rfl dL_law_1752 ?_
    refine aw_aload_n (x := b) rfl dL_law_1753 ?_
    refine aw_iload (x := (nI i)) rfl dL_law_1754 ?_
    refine aw_iconst (v := 1) (by decide) dL_law_1756 ?_
    refine aw_iaddz (z := nI (i + 1)) (nI_add i 1) dL_law_1757 ?_
    refine aw_sld (v := xs (i + 1)) rfl (nI_in (by omega) (by omega)) (by rw [nI_clamp (by omega)]) dL_law_1758 ?_
    refine aw_aload_n (x := b) rfl dL_law_1759 ?_
    refine aw_iload (x := (nI i)) rfl dL_law_1760 ?_
    refine aw_iconst (v := 2) (by decide) dL_law_1762 ?_
    refine aw_iaddz (z := nI (i + 2)) (nI_add i 2) dL_law_1763 ?_
    refine aw_sld (v := xs (i + 2)) rfl (nI_in (by omega) (by omega)) (by rw [nI_clamp (by omega)]) dL_law_1764 ?_
    refine aw_aload_n (x := b) rfl dL_law_1765 ?_
    refine aw_iload (x := (nI i)) rfl dL_law_1766 ?_
    refine aw_iconst (v := 3) (by decide) dL_law_1768 ?_
    refine aw_iaddz (z := nI (i + 3)) (nI_add i 3) dL_law_1769 ?_
    refine aw_sld (v := xs (i + 3)) rfl (nI_in (by omega) (by omega)) (by rw [nI_clamp (by omega)]) dL_law_1770 ?_
    refine aw_aload_n (x := ad 16 0 0) rfl dL_law_1771 ?_
    refine aw_L (As := [.ref (ad 7 0 0), .int (xs (i + 1)), .int (xs (i + 2)), .int (xs (i + 3)), .ref (ad 16 0 0)]) (S := []) (lwv_bestTest h7) fhL_bestTest wq848 wq849 rfl rfl (Nat.le_of_ble_eq_true rfl) (by decide) (by decide) hcc hcs dL_law_1772 ?_
    refine aw_istore (L2 := [some (.ref b), some (.ref (ad 7 0 0)), some (.ref (ad 14 0 0)), some (.ref (ad 16 0 0)), some (.int (nI i)), some (.int 0), none]) (Nat.le_of_ble_eq_true rfl) rfl rfl dL_law_1775 ?_
    refine aw_aload_n (x := ad 14 0 0) rfl dL_law_1777 ?_
    refine aw_aload_n (x := b) rfl dL_law_1778 ?_
    refine aw_iload (x := (nI i)) rfl dL_law_1779 ?_
    refine aw_iconst (v := 1) (by decide) dL_law_1781 ?_
    refine aw_iaddz (z := nI (i + 1)) (nI_add i 1) dL_law_1782 ?_
    refine aw_sld (v := xs (i + 1)) rfl (nI_in (by omega) (by omega)) (by rw [nI_clamp (by omega)]) dL_law_1783 ?_
    refine aw_aload_n (x := b) rfl dL_law_1784 ?_
    refine aw_iload (x := (nI i)) rfl dL_law_1785 ?_
    refine aw_iconst (v := 2) (by decide) dL_law_1787 ?_
    refine aw_iaddz (z := nI (i + 2)) (nI_add i 2) dL_law_1788 ?_
    refine aw_sld (v := xs (i + 2)) rfl (nI_in (by omega) (by omega)) (by rw [nI_clamp (by omega)]) dL_law_1789 ?_
    refine aw_aload_n (x := b) rfl dL_law_1790 ?_
    refine aw_iload (x := (nI i)) rfl dL_law_1791 ?_
    refine aw_iconst (v := 3) (by decide) dL_law_1793 ?_
    refine aw_iaddz (z := nI (i + 3)) (nI_add i 3) dL_law_1794 ?_
    refine aw_sld (v := xs (i + 3)) rfl (nI_in (by omega) (by omega)) (by rw [nI_clamp (by omega)]) dL_law_1795 ?_
    refine aw_0V (As := [.int (xs (i + 1)), .int (xs (i + 2)), .int (xs (i + 3))]) (S := []) (v := some (.int v)) (o2 := o2) h8 (mm_fit_of cbX8_bestTest (Nat.le_of_ble_eq_true rfl) (Nat.le_of_ble_eq_true rfl)) wq1167 cvX8_bestTest wv14 rfl rfl rfl (Nat.le_of_ble_eq_true rfl) rfl rfl hcc hcs rfl dL_law_1796 ?_
    refine aw_istore (L2 := [some (.ref b), some (.ref (ad 7 0 0)), some (.ref (ad 14 0 0)), some (.ref (ad 16 0 0)), some (.int (nI i)), some (.int 0), some (.int v)]) (Nat.le_of_ble_eq_true rfl) rfl rfl dL_law_1799 ?_
    refine aw_aload_n (x := ad 14 0 0) rfl dL_law_1801 ?_
    refine aw_0V (As := []) (S := []) (v := some (.int 0)) (o2 := o2) (thr_of h12) (mm_fit_of cbX8_thrown (Nat.le_of_ble_eq_true rfl) (Nat.le_of_ble_eq_true rfl)) wq914 cvX8_thrown wv14 rfl rfl rfl (Nat.le_of_ble_eq_true rfl) rfl rfl hcc hcs rfl dL_law_1802 ?_
    refine aw_iload (x := 0) rfl dL_law_1805 ?_
    refine aw_icmp_eq (tgt := 1812) (by decide) dL_law_1807 (fun _ => ?_) (fun z => absurd rfl z)
    refine aw_iload (x := 0) rfl dL_law_1812 ?_
    refine aw_if_ne (tgt := 1829) (by decide) dL_law_1814 (fun z => absurd rfl z) (fun _ => ?_)
    refine aw_aload_n (x := ad 16 0 0) rfl dL_law_1817 ?_
    refine aw_iconst (v := 0) (by decide) dL_law_1818 ?_
    refine aw_lld rfl dL_law_1819 ?_
    refine aw_iload (x := v) rfl dL_law_1820 ?_
    refine aw_i2l dL_law_1822 ?_
    refine aw_lcmp dL_law_1823 ?_
    refine aw_if_eq (tgt := 1829) (by decide) dL_law_1824 (fun _ => ?_) (fun z => absurd hcmp z)
    refine aw_goto (tgt := 1946) (by decide) dL_law_1829 ?_
    exact AW.locs (K o2 n2 m2 c2 R2) (lsub_keep (lsub_keep (lsub_keep (lsub_keep (lsub_keep (lsub_none (lsub_none lsub_nil)))))))
  · simp only [List.mem_cons, Prod.mk.injEq, List.not_mem_nil, or_false] at hE
    rcases hE with ⟨rfl, rfl⟩ | ⟨rfl, rfl⟩
    · skip
      refine aw_aload_n (x := ad 7 0 0) rfl dL_law_1752 ?_
      refine aw_aload_n (x := b) rfl dL_law_1753 ?_
      refine aw_iload (x := (nI i)) rfl dL_law_1754 ?_
      refine aw_iconst (v := 1) (by decide) dL_law_1756 ?_
      refine aw_iaddz (z := nI (i + 1)) (nI_add i 1) dL_law_1757 ?_
      refine aw_sld (v := xs (i + 1)) rfl (nI_in (by omega) (by omega)) (by rw [nI_clamp (by omega)]) dL_law_1758 ?_
      refine aw_aload_n (x := b) rfl dL_law_1759 ?_
      refine aw_iload (x := (nI i)) rfl dL_law_1760 ?_
      refine aw_iconst (v := 2) (by decide) dL_law_1762 ?_
      refine aw_iaddz (z := nI (i + 2)) (nI_add i 2) dL_law_1763 ?_
      refine aw_sld (v := xs (i + 2)) rfl (nI_in (by omega) (by omega)) (by rw [nI_clamp (by omega)]) dL_law_1764 ?_
      refine aw_aload_n (x := b) rfl dL_law_1765 ?_
      refine aw_iload (x := (nI i)) rfl dL_law_1766 ?_
      refine aw_iconst (v := 3) (by decide) dL_law_1768 ?_
      refine aw_iaddz (z := nI (i + 3)) (nI_add i 3) dL_law_1769 ?_
      refine aw_sld (v := xs (i + 3)) rfl (nI_in (by omega) (by omega)) (by rw [nI_clamp (by omega)]) dL_law_1770 ?_
      refine aw_aload_n (x := ad 16 0 0) rfl dL_law_1771 ?_
      refine aw_L (As := [.ref (ad 7 0 0), .int (xs (i + 1)), .int (xs (i + 2)), .int (xs (i + 3)), .ref (ad 16 0 0)]) (S := []) (lwx_bestTest_eI h7) fhL_bestTest wq848 wq849 rfl rfl (Nat.le_of_ble_eq_true rfl) (by decide) (by decide) hcc hcs dL_law_1772 ?_
      refine aw_istore (L2 := [some (.ref b), some (.ref (ad 7 0 0)), some (.ref (ad 14 0 0)), some (.ref (ad 16 0 0)), some (.int (nI i)), some (.int 1), none]) (Nat.le_of_ble_eq_true rfl) rfl rfl dL_law_1775 ?_
      refine aw_aload_n (x := ad 14 0 0) rfl dL_law_1777 ?_
      refine aw_aload_n (x := b) rfl dL_law_1778 ?_
      refine aw_iload (x := (nI i)) rfl dL_law_1779 ?_
      refine aw_iconst (v := 1) (by decide) dL_law_1781 ?_
      refine aw_iaddz (z := nI (i + 1)) (nI_add i 1) dL_law_1782 ?_
      refine aw_sld (v := xs (i + 1)) rfl (nI_in (by omega) (by omega)) (by rw [nI_clamp (by omega)]) dL_law_1783 ?_
      refine aw_aload_n (x := b) rfl dL_law_1784 ?_
      refine aw_iload (x := (nI i)) rfl dL_law_1785 ?_
      refine aw_iconst (v := 2) (by decide) dL_law_1787 ?_
      refine aw_iaddz (z := nI (i + 2)) (nI_add i 2) dL_law_1788 ?_
      refine aw_sld (v := xs (i + 2)) rfl (nI_in (by omega) (by omega)) (by rw [nI_clamp (by omega)]) dL_law_1789 ?_
      refine aw_aload_n (x := b) rfl dL_law_1790 ?_
      refine aw_iload (x := (nI i)) rfl dL_law_1791 ?_
      refine aw_iconst (v := 3) (by decide) dL_law_1793 ?_
      refine aw_iaddz (z := nI (i + 3)) (nI_add i 3) dL_law_1794 ?_
      refine aw_sld (v := xs (i + 3)) rfl (nI_in (by omega) (by omega)) (by rw [nI_clamp (by omega)]) dL_law_1795 ?_
      refine aw_0V (As := [.int (xs (i + 1)), .int (xs (i + 2)), .int (xs (i + 3))]) (S := []) (v := some (.int 0)) (o2 := (wd_w o 12 1 1)) h8 (mm_fit_of cbX8_bestTest (Nat.le_of_ble_eq_true rfl) (Nat.le_of_ble_eq_true rfl)) wq1167 cvX8_bestTest wv14 rfl rfl rfl (Nat.le_of_ble_eq_true rfl) rfl rfl hcc hcs rfl dL_law_1796 ?_
      refine aw_istore (L2 := [some (.ref b), some (.ref (ad 7 0 0)), some (.ref (ad 14 0 0)), some (.ref (ad 16 0 0)), some (.int (nI i)), some (.int 1), some (.int 0)]) (Nat.le_of_ble_eq_true rfl) rfl rfl dL_law_1799 ?_
      refine aw_aload_n (x := ad 14 0 0) rfl dL_law_1801 ?_
      refine aw_0V (As := []) (S := []) (v := some (.int 1)) (o2 := (wd_w o 12 1 1)) (thr_of (by rw [wd_get, if_pos ⟨rfl, rfl⟩])) (mm_fit_of cbX8_thrown (Nat.le_of_ble_eq_true rfl) (Nat.le_of_ble_eq_true rfl)) wq914 cvX8_thrown wv14 rfl rfl rfl (Nat.le_of_ble_eq_true rfl) rfl rfl hcc hcs rfl dL_law_1802 ?_
      refine aw_iload (x := 1) rfl dL_law_1805 ?_
      refine aw_icmp_eq (tgt := 1812) (by decide) dL_law_1807 (fun _ => ?_) (fun z => absurd rfl z)
      refine aw_iload (x := 1) rfl dL_law_1812 ?_
      refine aw_if_ne (tgt := 1829) (by decide) dL_law_1814 (fun _ => ?_) (fun z => absurd z (by decide))
      refine aw_goto (tgt := 1946) (by decide) dL_law_1829 ?_
      exact AW.locs (K _ n m c (R.w 1)) (lsub_keep (lsub_keep (lsub_keep (lsub_keep (lsub_keep (lsub_none (lsub_none lsub_nil)))))))
    · skip
      refine aw_aload_n (x := ad 7 0 0) rfl dL_law_1752 ?_
      refine aw_aload_n (x := b) rfl dL_law_1753 ?_
      refine aw_iload (x := (nI i)) rfl dL_law_1754 ?_
      refine aw_iconst (v := 1) (by decide) dL_law_1756 ?_
      refine aw_iaddz (z := nI (i + 1)) (nI_add i 1) dL_law_1757 ?_
      refine aw_sld (v := xs (i + 1)) rfl (nI_in (by omega) (by omega)) (by rw [nI_clamp (by omega)]) dL_law_1758 ?_
      refine aw_aload_n (x := b) rfl dL_law_1759 ?_
      refine aw_iload (x := (nI i)) rfl dL_law_1760 ?_
      refine aw_iconst (v := 2) (by decide) dL_law_1762 ?_
      refine aw_iaddz (z := nI (i + 2)) (nI_add i 2) dL_law_1763 ?_
      refine aw_sld (v := xs (i + 2)) rfl (nI_in (by omega) (by omega)) (by rw [nI_clamp (by omega)]) dL_law_1764 ?_
      refine aw_aload_n (x := b) rfl dL_law_1765 ?_
      refine aw_iload (x := (nI i)) rfl dL_law_1766 ?_
      refine aw_iconst (v := 3) (by decide) dL_law_1768 ?_
      refine aw_iaddz (z := nI (i + 3)) (nI_add i 3) dL_law_1769 ?_
      refine aw_sld (v := xs (i + 3)) rfl (nI_in (by omega) (by omega)) (by rw [nI_clamp (by omega)]) dL_law_1770 ?_
      refine aw_aload_n (x := ad 16 0 0) rfl dL_law_1771 ?_
      refine aw_L (As := [.ref (ad 7 0 0), .int (xs (i + 1)), .int (xs (i + 2)), .int (xs (i + 3)), .ref (ad 16 0 0)]) (S := []) (lwx_bestTest_eA h7) fhL_bestTest wq848 wq849 rfl rfl (Nat.le_of_ble_eq_true rfl) (by decide) (by decide) hcc hcs dL_law_1772 ?_
      refine aw_istore (L2 := [some (.ref b), some (.ref (ad 7 0 0)), some (.ref (ad 14 0 0)), some (.ref (ad 16 0 0)), some (.int (nI i)), some (.int 2), none]) (Nat.le_of_ble_eq_true rfl) rfl rfl dL_law_1775 ?_
      refine aw_aload_n (x := ad 14 0 0) rfl dL_law_1777 ?_
      refine aw_aload_n (x := b) rfl dL_law_1778 ?_
      refine aw_iload (x := (nI i)) rfl dL_law_1779 ?_
      refine aw_iconst (v := 1) (by decide) dL_law_1781 ?_
      refine aw_iaddz (z := nI (i + 1)) (nI_add i 1) dL_law_1782 ?_
      refine aw_sld (v := xs (i + 1)) rfl (nI_in (by omega) (by omega)) (by rw [nI_clamp (by omega)]) dL_law_1783 ?_
      refine aw_aload_n (x := b) rfl dL_law_1784 ?_
      refine aw_iload (x := (nI i)) rfl dL_law_1785 ?_
      refine aw_iconst (v := 2) (by decide) dL_law_1787 ?_
      refine aw_iaddz (z := nI (i + 2)) (nI_add i 2) dL_law_1788 ?_
      refine aw_sld (v := xs (i + 2)) rfl (nI_in (by omega) (by omega)) (by rw [nI_clamp (by omega)]) dL_law_1789 ?_
      refine aw_aload_n (x := b) rfl dL_law_1790 ?_
      refine aw_iload (x := (nI i)) rfl dL_law_1791 ?_
      refine aw_iconst (v := 3) (by decide) dL_law_1793 ?_
      refine aw_iaddz (z := nI (i + 3)) (nI_add i 3) dL_law_1794 ?_
      refine aw_sld (v := xs (i + 3)) rfl (nI_in (by omega) (by omega)) (by rw [nI_clamp (by omega)]) dL_law_1795 ?_
      refine aw_0V (As := [.int (xs (i + 1)), .int (xs (i + 2)), .int (xs (i + 3))]) (S := []) (v := some (.int 0)) (o2 := (wd_w o 12 1 2)) h8 (mm_fit_of cbX8_bestTest (Nat.le_of_ble_eq_true rfl) (Nat.le_of_ble_eq_true rfl)) wq1167 cvX8_bestTest wv14 rfl rfl rfl (Nat.le_of_ble_eq_true rfl) rfl rfl hcc hcs rfl dL_law_1796 ?_
      refine aw_istore (L2 := [some (.ref b), some (.ref (ad 7 0 0)), some (.ref (ad 14 0 0)), some (.ref (ad 16 0 0)), some (.int (nI i)), some (.int 2), some (.int 0)]) (Nat.le_of_ble_eq_true rfl) rfl rfl dL_law_1799 ?_
      refine aw_aload_n (x := ad 14 0 0) rfl dL_law_1801 ?_
      refine aw_0V (As := []) (S := []) (v := some (.int 2)) (o2 := (wd_w o 12 1 2)) (thr_of (by rw [wd_get, if_pos ⟨rfl, rfl⟩])) (mm_fit_of cbX8_thrown (Nat.le_of_ble_eq_true rfl) (Nat.le_of_ble_eq_true rfl)) wq914 cvX8_thrown wv14 rfl rfl rfl (Nat.le_of_ble_eq_true rfl) rfl rfl hcc hcs rfl dL_law_1802 ?_
      refine aw_iload (x := 2) rfl dL_law_1805 ?_
      refine aw_icmp_eq (tgt := 1812) (by decide) dL_law_1807 (fun _ => ?_) (fun z => absurd rfl z)
      refine aw_iload (x := 2) rfl dL_law_1812 ?_
      refine aw_if_ne (tgt := 1829) (by decide) dL_law_1814 (fun _ => ?_) (fun z => absurd z (by decide))
      refine aw_goto (tgt := 1946) (by decide) dL_law_1829 ?_
      exact AW.locs (K _ n m c (R.w 2)) (lsub_keep (lsub_keep (lsub_keep (lsub_keep (lsub_keep (lsub_none (lsub_none lsub_nil)))))))
theorem bk_27 {ad : Nat → Nat → Nat → Nat} {o : wd_S} {n m c b L i : Nat} {xs : Nat → Int32} {cc cs : Nat} {F : (Option Value ⊕ String) → wd_S → Prop} (hL : L ≤ 2048) (hi : i + 4 ≤ L) (R : Rel o n m c) (hcc : cc + 2 ≤ (mm_mo (ML_law b L xs)).cells) (hcs : cs + 12 ≤ (mm_mo (ML_law b L xs)).slots) (K : ∀ o2 n m c, Rel o2 n m c → AW ad (ML_law b L xs) 1946 [some (.ref b), some (.ref (ad 7 0 0)), some (.ref (ad 14 0 0)), some (.ref (ad 16 0 0)), some (.int (nI i)), none, none] [] o2 (cc + 2) (cs + 12) F) : AW ad (ML_law b L xs) 1832 [some (.ref b), some (.ref (ad 7 0 0)), some (.ref (ad 14 0 0)), some (.ref (ad 16 0 0)), some (.int (nI i)), none, none] [] o cc cs F := by
  rcases sp_need (ad := ad) R (x := xs (i + 1)) with ⟨v, o1, o2, h7, h8, hP, h12, hj, n2, m2, c2, R2⟩ | ⟨E, k, hE, h7, h8⟩
  · have hcmp : lg_cmp (o2.2.2 1) v.toInt64 = 0 := by rw [hj]; exact cmp_self _
    refine aw_aload_n (x := ad 7 0 0) rfl dL_law_1832 ?_
    refine aw_aload_n (x := b) rfl dL_law_1833 ?_
    refine aw_iload (x := (nI i)) rfl dL_law_1834 ?_
    refine aw_iconst (v := 1) (by decide) dL_law_1836 ?_
    refine aw_iaddz (z := nI (i + 1)) (nI_add i 1) dL_law_1837 ?_
    refine aw_sld (v := xs (i + 1)) rfl (nI_in (by omega) (by omega)) (by rw [nI_clamp (by omega)]) dL_law_1838 ?_
    refine aw_aload_n (x := ad 16 0 0) rfl dL_law_1839 ?_
    refine aw_L (As := [.ref (ad 7 0 0), .int (xs (i + 1)), .ref (ad 16 0 0)]) (S := []) (lwv_testsNeeded h7) fhL_testsNeeded wq855 wq856 rfl rfl (Nat.le_of_ble_eq_true rfl) (by decide) (by decide) hcc hcs dL_law_1840 ?_
    refine aw_istore (L2 := [some (.ref b), some (.ref (ad 7 0 0)), some (.ref (ad 14 0 0)), some (.ref (ad 16 0 0)), some (.int (nI i)), some (.int 0), none]) (Nat.le_of_ble_eq_true rfl) rfl rfl dL_law_1843 ?_
    refine aw_aload_n (x := ad 14 0 0) rfl dL_law_1845 ?_
    refine aw_aload_n (x := b) rfl dL_law_1846 ?_
    refine aw_iload (x := (nI i)) rfl dL_law_1847 ?_
    refine aw_iconst (v := 1) (by decide) dL_law_1849 ?_
    refine aw_iaddz (z := nI (i + 1)) (nI_add i 1) dL_law_1850 ?_
    refine aw_sld (v := xs (i + 1)) rfl (nI_in (by omega) (by omega)) (by rw [nI_clamp (by omega)]) dL_law_1851 ?_
    refine aw_0V (As := [.int (xs (i + 1))]) (S := []) (v := some (.int v)) (o2 := o2) h8 (mm_fit_of cbX8_testsNeeded (Nat.le_of_ble_eq_true rfl) (Nat.le_of_ble_eq_true rfl)) wq1171 cvX8_testsNeeded wv14 rfl rfl rfl (Nat.le_of_ble_eq_true rfl) rfl rfl hcc hcs rfl dL_law_1852 ?_
    refine aw_istore (L2 := [some (.ref b), some (.ref (ad 7 0 0)), some (.ref (ad 14 0 0)), some (.ref (ad 16 0 0)), some (.int (nI i)), some (.int 0), some (.int v)]) (Nat.le_of_ble_eq_true rfl) rfl rfl dL_law_1855 ?_
    refine aw_aload_n (x := ad 14 0 0) rfl dL_law_1857 ?_
    refine aw_0V (As := []) (S := []) (v := some (.int 0)) (o2 := o2) (thr_of h12) (mm_fit_of cbX8_thrown (Nat.le_of_ble_eq_true rfl) (Nat.le_of_ble_eq_true rfl)) wq914 cvX8_thrown wv14 rfl rfl rfl (Nat.le_of_ble_eq_true rfl) rfl rfl hcc hcs rfl dL_law_1858 ?_
    refine aw_iload (x := 0) rfl dL_law_1861 ?_
    refine aw_icmp_eq (tgt := 1868) (by decide) dL_law_1863 (fun _ => ?_) (fun z => absurd rfl z)
    refine aw_iload (x := 0) rfl dL_law_1868 ?_
    refine aw_if_ne (tgt := 1885) (by decide) dL_law_1870 (fun z => absurd rfl z) (fun _ => ?_)
    refine aw_aload_n (x := ad 16 0 0) rfl dL_law_1873 ?_
    refine aw_iconst (v := 0) (by decide) dL_law_1874 ?_
    refine aw_lld rfl dL_law_1875 ?_
    refine aw_iload (x := v) rfl dL_law_1876 ?_
    refine aw_i2l dL_law_1878 ?_
    refine aw_lcmp dL_law_1879 ?_
    refine aw_if_eq (tgt := 1885) (by decide) dL_law_1880 (fun _ => ?_) (fun z => absurd hcmp z)
    refine aw_goto (tgt := 1946) (by decide) dL_law_1885 ?_
    exact AW.locs (K o2 n2 m2 c2 R2) (lsub_keep (lsub_keep (lsub_keep (lsub_keep (lsub_keep (lsub_none (lsub_none lsub_nil)))))))
  · simp only [List.mem_cons, Prod.mk.injEq, List.not_mem_nil, or_false] at hE
    rcases hE with ⟨rfl, rfl⟩ | ⟨rfl, rfl⟩
    · skip
      refine aw_aload_n (x := ad 7 0 0) rfl dL_law_1832 ?_
      refine aw_aload_n (x := b) rfl dL_law_1833 ?_
      refine aw_iload (x := (nI i)) rfl dL_law_1834 ?_
      refine aw_iconst (v := 1) (by decide) dL_law_1836 ?_
      refine aw_iaddz (z := nI (i + 1)) (nI_add i 1) dL_law_1837 ?_
      refine aw_sld (v := xs (i + 1)) rfl (nI_in (by omega) (by omega)) (by rw [nI_clamp (by omega)]) dL_law_1838 ?_
      refine aw_aload_n (x := ad 16 0 0) rfl dL_law_1839 ?_
      refine aw_L (As := [.ref (ad 7 0 0), .int (xs (i + 1)), .ref (ad 16 0 0)]) (S := []) (lwx_testsNeeded_eI h7) fhL_testsNeeded wq855 wq856 rfl rfl (Nat.le_of_ble_eq_true rfl) (by decide) (by decide) hcc hcs dL_law_1840 ?_
      refine aw_istore (L2 := [some (.ref b), some (.ref (ad 7 0 0)), some (.ref (ad 14 0 0)), some (.ref (ad 16 0 0)), some (.int (nI i)), some (.int 1), none]) (Nat.le_of_ble_eq_true rfl) rfl rfl dL_law_1843 ?_
      refine aw_aload_n (x := ad 14 0 0) rfl dL_law_1845 ?_
      refine aw_aload_n (x := b) rfl dL_law_1846 ?_
      refine aw_iload (x := (nI i)) rfl dL_law_1847 ?_
      refine aw_iconst (v := 1) (by decide) dL_law_1849 ?_
      refine aw_iaddz (z := nI (i + 1)) (nI_add i 1) dL_law_1850 ?_
      refine aw_sld (v := xs (i + 1)) rfl (nI_in (by omega) (by omega)) (by rw [nI_clamp (by omega)]) dL_law_1851 ?_
      refine aw_0V (As := [.int (xs (i + 1))]) (S := []) (v := some (.int 0)) (o2 := (wd_w o 12 1 1)) h8 (mm_fit_of cbX8_testsNeeded (Nat.le_of_ble_eq_true rfl) (Nat.le_of_ble_eq_true rfl)) wq1171 cvX8_testsNeeded wv14 rfl rfl rfl (Nat.le_of_ble_eq_true rfl) rfl rfl hcc hcs rfl dL_law_1852 ?_
      refine aw_istore (L2 := [some (.ref b), some (.ref (ad 7 0 0)), some (.ref (ad 14 0 0)), some (.ref (ad 16 0 0)), some (.int (nI i)), some (.int 1), some (.int 0)]) (Nat.le_of_ble_eq_true rfl) rfl rfl dL_law_1855 ?_
      refine aw_aload_n (x := ad 14 0 0) rfl dL_law_1857 ?_
      refine aw_0V (As := []) (S := []) (v := some (.int 1)) (o2 := (wd_w o 12 1 1)) (thr_of (by rw [wd_get, if_pos ⟨rfl, rfl⟩])) (mm_fit_of cbX8_thrown (Nat.le_of_ble_eq_true rfl) (Nat.le_of_ble_eq_true rfl)) wq914 cvX8_thrown wv14 rfl rfl rfl (Nat.le_of_ble_eq_true rfl) rfl rfl hcc hcs rfl dL_law_1858 ?_
      refine aw_iload (x := 1) rfl dL_law_1861 ?_
      refine aw_icmp_eq (tgt := 1868) (by decide) dL_law_1863 (fun _ => ?_) (fun z => absurd rfl z)
      refine aw_iload (x := 1) rfl dL_law_1868 ?_
      refine aw_if_ne (tgt := 1885) (by decide) dL_law_1870 (fun _ => ?_) (fun z => absurd z (by decide))
      refine aw_goto (tgt := 1946) (by decide) dL_law_1885 ?_
      exact AW.locs (K _ n m c (R.w 1)) (lsub_keep (lsub_keep (lsub_keep (lsub_keep (lsub_keep (lsub_none (lsub_none lsub_nil)))))))
    · skip
      refine aw_aload_n (x := ad 7 0 0) rfl dL_law_1832 ?_
      refine aw_aload_n (x := b) rfl dL_law_1833 ?_
      refine aw_iload (x := (nI i)) rfl dL_law_1834 ?_
      refine aw_iconst (v := 1) (by decide) dL_law_1836 ?_
      refine aw_iaddz (z := nI (i + 1)) (nI_add i 1) dL_law_1837 ?_
      refine aw_sld (v := xs (i + 1)) rfl (nI_in (by omega) (by omega)) (by rw [nI_clamp (by omega)]) dL_law_1838 ?_
      refine aw_aload_n (x := ad 16 0 0) rfl dL_law_1839 ?_
      refine aw_L (As := [.ref (ad 7 0 0), .int (xs (i + 1)), .ref (ad 16 0 0)]) (S := []) (lwx_testsNeeded_eS h7) fhL_testsNeeded wq855 wq856 rfl rfl (Nat.le_of_ble_eq_true rfl) (by decide) (by decide) hcc hcs dL_law_1840 ?_
      refine aw_istore (L2 := [some (.ref b), some (.ref (ad 7 0 0)), some (.ref (ad 14 0 0)), some (.ref (ad 16 0 0)), some (.int (nI i)), some (.int 2), none]) (Nat.le_of_ble_eq_true rfl) rfl rfl dL_law_1843 ?_
      refine aw_aload_n (x := ad 14 0 0) rfl dL_law_1845 ?_
      refine aw_aload_n (x := b) rfl dL_law_1846 ?_
      refine aw_iload (x := (nI i)) rfl dL_law_1847 ?_
      refine aw_iconst (v := 1) (by decide) dL_law_1849 ?_
      refine aw_iaddz (z := nI (i + 1)) (nI_add i 1) dL_law_1850 ?_
      refine aw_sld (v := xs (i + 1)) rfl (nI_in (by omega) (by omega)) (by rw [nI_clamp (by omega)]) dL_law_1851 ?_
      refine aw_0V (As := [.int (xs (i + 1))]) (S := []) (v := some (.int 0)) (o2 := (wd_w o 12 1 2)) h8 (mm_fit_of cbX8_testsNeeded (Nat.le_of_ble_eq_true rfl) (Nat.le_of_ble_eq_true rfl)) wq1171 cvX8_testsNeeded wv14 rfl rfl rfl (Nat.le_of_ble_eq_true rfl) rfl rfl hcc hcs rfl dL_law_1852 ?_
      refine aw_istore (L2 := [some (.ref b), some (.ref (ad 7 0 0)), some (.ref (ad 14 0 0)), some (.ref (ad 16 0 0)), some (.int (nI i)), some (.int 2), some (.int 0)]) (Nat.le_of_ble_eq_true rfl) rfl rfl dL_law_1855 ?_
      refine aw_aload_n (x := ad 14 0 0) rfl dL_law_1857 ?_
      refine aw_0V (As := []) (S := []) (v := some (.int 2)) (o2 := (wd_w o 12 1 2)) (thr_of (by rw [wd_get, if_pos ⟨rfl, rfl⟩])) (mm_fit_of cbX8_thrown (Nat.le_of_ble_eq_true rfl) (Nat.le_of_ble_eq_true rfl)) wq914 cvX8_thrown wv14 rfl rfl rfl (Nat.le_of_ble_eq_true rfl) rfl rfl hcc hcs rfl dL_law_1858 ?_
      refine aw_iload (x := 2) rfl dL_law_1861 ?_
      refine aw_icmp_eq (tgt := 1868) (by decide) dL_law_1863 (fun _ => ?_) (fun z => absurd rfl z)
      refine aw_iload (x := 2) rfl dL_law_1868 ?_
      refine aw_if_ne (tgt := 1885) (by decide) dL_law_1870 (fun _ => ?_) (fun z => absurd z (by decide))
      refine aw_goto (tgt := 1946) (by decide) dL_law_1885 ?_
      exact AW.locs (K _ n m c (R.w 2)) (lsub_keep (lsub_keep (lsub_keep (lsub_keep (lsub_keep (lsub_none (lsub_none lsub_nil)))))))
theorem bk_28 {ad : Nat → Nat → Nat → Nat} {o : wd_S} {n m c b L i : Nat} {xs : Nat → Int32} {cc cs : Nat} {F : (Option Value ⊕ String) → wd_S → Prop} (hL : L ≤ 2048) (hi : i + 4 ≤ L) (R : Rel o n m c) (hcc : cc + 2 ≤ (mm_mo (ML_law b L xs)).cells) (hcs : cs + 12 ≤ (mm_mo (ML_law b L xs)).slots) (K : ∀ o2 n m c, Rel o2 n m c → AW ad (ML_law b L xs) 1946 [some (.ref b), some (.ref (ad 7 0 0)), some (.ref (ad 14 0 0)), some (.ref (ad 16 0 0)), some (.int (nI i)), none, none] [] o2 (cc + 2) (cs + 12) F) : AW ad (ML_law b L xs) 1888 [some (.ref b), some (.ref (ad 7 0 0)), some (.ref (ad 14 0 0)), some (.ref (ad 16 0 0)), some (.int (nI i)), none, none] [] o cc cs F := by
  rcases sp_undo (ad := ad) R  with ⟨v, o1, o2, h7, h8, hP, h12, hj, n2, m2, c2, R2⟩ | ⟨E, k, hE, h7, h8⟩
  · have hcmp : lg_cmp (o2.2.2 1) v.toInt64 = 0 := by rw [hj]; exact cmp_self _
    refine aw_aload_n (x := ad 7 0 0) rfl dL_law_1888 ?_
    refine aw_aload_n (x := ad 16 0 0) rfl dL_law_1889 ?_
    refine aw_L (As := [.ref (ad 7 0 0), .ref (ad 16 0 0)]) (S := []) (lwv_undo h7) fhL_undo wq866 wq867 rfl rfl (Nat.le_of_ble_eq_true rfl) (by decide) (by decide) hcc hcs dL_law_1890 ?_
    refine aw_istore (L2 := [some (.ref b), some (.ref (ad 7 0 0)), some (.ref (ad 14 0 0)), some (.ref (ad 16 0 0)), some (.int (nI i)), some (.int 0), none]) (Nat.le_of_ble_eq_true rfl) rfl rfl dL_law_1893 ?_
    refine aw_aload_n (x := ad 14 0 0) rfl dL_law_1895 ?_
    refine aw_0V (As := []) (S := []) (v := some (.int v)) (o2 := o2) h8 (mm_fit_of cbX8_undo (Nat.le_of_ble_eq_true rfl) (Nat.le_of_ble_eq_true rfl)) wq918 cvX8_undo wv14 rfl rfl rfl (Nat.le_of_ble_eq_true rfl) rfl rfl hcc hcs rfl dL_law_1896 ?_
    refine aw_istore (L2 := [some (.ref b), some (.ref (ad 7 0 0)), some (.ref (ad 14 0 0)), some (.ref (ad 16 0 0)), some (.int (nI i)), some (.int 0), some (.int v)]) (Nat.le_of_ble_eq_true rfl) rfl rfl dL_law_1899 ?_
    refine aw_aload_n (x := ad 14 0 0) rfl dL_law_1901 ?_
    refine aw_0V (As := []) (S := []) (v := some (.int 0)) (o2 := o2) (thr_of h12) (mm_fit_of cbX8_thrown (Nat.le_of_ble_eq_true rfl) (Nat.le_of_ble_eq_true rfl)) wq914 cvX8_thrown wv14 rfl rfl rfl (Nat.le_of_ble_eq_true rfl) rfl rfl hcc hcs rfl dL_law_1902 ?_
    refine aw_iload (x := 0) rfl dL_law_1905 ?_
    refine aw_icmp_eq (tgt := 1912) (by decide) dL_law_1907 (fun _ => ?_) (fun z => absurd rfl z)
    refine aw_iload (x := 0) rfl dL_law_1912 ?_
    refine aw_if_ne (tgt := 1929) (by decide) dL_law_1914 (fun z => absurd rfl z) (fun _ => ?_)
    refine aw_aload_n (x := ad 16 0 0) rfl dL_law_1917 ?_
    refine aw_iconst (v := 0) (by decide) dL_law_1918 ?_
    refine aw_lld rfl dL_law_1919 ?_
    refine aw_iload (x := v) rfl dL_law_1920 ?_
    refine aw_i2l dL_law_1922 ?_
    refine aw_lcmp dL_law_1923 ?_
    refine aw_if_eq (tgt := 1929) (by decide) dL_law_1924 (fun _ => ?_) (fun z => absurd hcmp z)
    refine aw_goto (tgt := 1946) (by decide) dL_law_1929 ?_
    exact AW.locs (K o2 n2 m2 c2 R2) (lsub_keep (lsub_keep (lsub_keep (lsub_keep (lsub_keep (lsub_none (lsub_none lsub_nil)))))))
  · simp only [List.mem_cons, Prod.mk.injEq, List.not_mem_nil, or_false] at hE
    obtain ⟨rfl, rfl⟩ := hE
    refine aw_aload_n (x := ad 7 0 0) rfl dL_law_1888 ?_
    refine aw_aload_n (x := ad 16 0 0) rfl dL_law_1889 ?_
    refine aw_L (As := [.ref (ad 7 0 0), .ref (ad 16 0 0)]) (S := []) (lwx_undo_eS h7) fhL_undo wq866 wq867 rfl rfl (Nat.le_of_ble_eq_true rfl) (by decide) (by decide) hcc hcs dL_law_1890 ?_
    refine aw_istore (L2 := [some (.ref b), some (.ref (ad 7 0 0)), some (.ref (ad 14 0 0)), some (.ref (ad 16 0 0)), some (.int (nI i)), some (.int 1), none]) (Nat.le_of_ble_eq_true rfl) rfl rfl dL_law_1893 ?_
    refine aw_aload_n (x := ad 14 0 0) rfl dL_law_1895 ?_
    refine aw_0V (As := []) (S := []) (v := some (.int 0)) (o2 := (wd_w o 12 1 1)) h8 (mm_fit_of cbX8_undo (Nat.le_of_ble_eq_true rfl) (Nat.le_of_ble_eq_true rfl)) wq918 cvX8_undo wv14 rfl rfl rfl (Nat.le_of_ble_eq_true rfl) rfl rfl hcc hcs rfl dL_law_1896 ?_
    refine aw_istore (L2 := [some (.ref b), some (.ref (ad 7 0 0)), some (.ref (ad 14 0 0)), some (.ref (ad 16 0 0)), some (.int (nI i)), some (.int 1), some (.int 0)]) (Nat.le_of_ble_eq_true rfl) rfl rfl dL_law_1899 ?_
    refine aw_aload_n (x := ad 14 0 0) rfl dL_law_1901 ?_
    refine aw_0V (As := []) (S := []) (v := some (.int 1)) (o2 := (wd_w o 12 1 1)) (thr_of (by rw [wd_get, if_pos ⟨rfl, rfl⟩])) (mm_fit_of cbX8_thrown (Nat.le_of_ble_eq_true rfl) (Nat.le_of_ble_eq_true rfl)) wq914 cvX8_thrown wv14 rfl rfl rfl (Nat.le_of_ble_eq_true rfl) rfl rfl hcc hcs rfl dL_law_1902 ?_
    refine aw_iload (x := 1) rfl dL_law_1905 ?_
    refine aw_icmp_eq (tgt := 1912) (by decide) dL_law_1907 (fun _ => ?_) (fun z => absurd rfl z)
    refine aw_iload (x := 1) rfl dL_law_1912 ?_
    refine aw_if_ne (tgt := 1929) (by decide) dL_law_1914 (fun _ => ?_) (fun z => absurd z (by decide))
    refine aw_goto (tgt := 1946) (by decide) dL_law_1929 ?_
    exact AW.locs (K _ n m c (R.w 1)) (lsub_keep (lsub_keep (lsub_keep (lsub_keep (lsub_keep (lsub_none (lsub_none lsub_nil)))))))
theorem bk_29 {ad : Nat → Nat → Nat → Nat} {o : wd_S} {n m c b L i : Nat} {xs : Nat → Int32} {cc cs : Nat} {F : (Option Value ⊕ String) → wd_S → Prop} (hL : L ≤ 2048) (hi : i + 4 ≤ L) (R : Rel o n m c) (hcc : cc + 2 ≤ (mm_mo (ML_law b L xs)).cells) (hcs : cs + 12 ≤ (mm_mo (ML_law b L xs)).slots) (K : ∀ o2 n m c, Rel o2 n m c → AW ad (ML_law b L xs) 1946 [some (.ref b), some (.ref (ad 7 0 0)), some (.ref (ad 14 0 0)), some (.ref (ad 16 0 0)), some (.int (nI i)), none, none] [] o2 (cc + 2) (cs + 12) F) : AW ad (ML_law b L xs) 1932 [some (.ref b), some (.ref (ad 7 0 0)), some (.ref (ad 14 0 0)), some (.ref (ad 16 0 0)), some (.int (nI i)), none, none] [] o cc cs F := by
  have hcmp : lg_cmp (cs_digest (o.1 0) n m c) (rf_dg (o.1 8) n m c 1857) = 0 := by rw [rd_digest R.1]; exact cmp_self _
  refine aw_aload_n (x := ad 7 0 0) rfl dL_law_1932 ?_
  refine aw_0V (As := []) (S := []) (v := some (.long (cs_digest (o.1 0) n m c))) (o2 := o) (ct_digest R.vs) (mm_fit_of cbX7_digest (Nat.le_of_ble_eq_true rfl) (Nat.le_of_ble_eq_true rfl)) wq250 cvX7_digest wv7 rfl rfl rfl (Nat.le_of_ble_eq_true rfl) rfl rfl (Nat.le_trans (Nat.le_add_right cc 2) hcc) (Nat.le_trans (Nat.le_add_right cs 12) hcs) rfl dL_law_1933 ?_
  refine aw_aload_n (x := ad 14 0 0) rfl dL_law_1936 ?_
  refine aw_0V (As := []) (S := [.long (cs_digest (o.1 0) n m c)]) (v := some (.long (rf_dg (o.1 8) n m c 1857))) (o2 := (wd_j (wd_w o 12 1 0) 0 (rf_dg (o.1 8) n m c 1857))) (rt_digest R.mv (Iv_mi R.1)) (mm_fit_of cbX8_digest (Nat.le_of_ble_eq_true rfl) (Nat.le_of_ble_eq_true rfl)) wq1175 cvX8_digest wv14 rfl rfl rfl (Nat.le_of_ble_eq_true rfl) rfl rfl (Nat.le_trans (Nat.le_add_right cc 2) hcc) (Nat.le_trans (Nat.le_add_right cs 12) hcs) rfl dL_law_1937 ?_
  refine aw_lcmp dL_law_1940 ?_
  refine aw_if_eq (tgt := 1946) (by decide) dL_law_1941 (fun _ => ?_) (fun z => absurd hcmp z)
  exact AW.wide (AW.locs (K _ n m c ((R.w 0).j 0 _)) (lsub_keep (lsub_keep (lsub_keep (lsub_keep (lsub_keep (lsub_keep (lsub_keep lsub_nil)))))))) (Nat.le_add_right cc 2) (Nat.le_add_right cs 12)
