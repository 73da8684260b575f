/-! PartyLines' constructor -/
def PI (h1 : mm_H) (a : Nat) (F : Nat → Nat → Nat → Nat) (e y q z qa qb : Nat) : Prop :=
  (mm_k h1 a = 7 ∧ mm_p h1 a 0 = some (F 0 0 0) ∧ mm_p h1 a 1 = some e ∧ mm_p h1 a 2 = some y ∧ mm_p h1 a 3 = some z) ∧
  (mm_k h1 e = 1 ∧ mm_p h1 e 0 = some (F 0 0 0)) ∧
  (mm_k h1 y = 2 ∧ mm_p h1 y 0 = some q ∧ mm_i h1 y 1 = 0 ∧ mm_k h1 q = 13 ∧ mm_n h1 q = 4 ∧ ∀ p, p < 4 → mm_p h1 q p = some (F (p + 1) 0 0)) ∧
  (∀ j, j < 5 → STp 5 16 h1 (F j)) ∧ (∀ j t i j2 t2 i2, j < 5 → j2 < 5 → tvp 5 16 t i → tvp 5 16 t2 i2 → F j t i = F j2 t2 i2 → j = j2) ∧
  (mm_k h1 z = 4 ∧ mm_p h1 z 0 = some qa ∧ mm_p h1 z 1 = some qb ∧ TB h1 qa ∧ TB h1 qb) ∧ (∀ i j, i ≤ 13 → j ≤ 13 → qa + i ≠ qb + j) ∧ ∀ j t i x, j < 5 → tvp 5 16 t i → x ≤ 13 → F j t i ≠ qa + x ∧ F j t i ≠ qb + x
theorem STp.ne_of {h : mm_H} {f : Nat → Nat → Nat} {t i b kd : Nat} (S : STp 5 16 h f) (v : tvp 5 16 t i) (hb : mm_k h b = kd) (hk : wd_k t ≠ kd) : f t i ≠ b := fun e => hk (by rw [← S.2.1 t i v, e]; exact hb)
theorem mc_X7_init {h : mm_H} {a : Nat} (ha : mm_k h a = 7) : mm_Met MX7_init [.ref a] h (fun r h2 => r = .inl none ∧ ∃ F e y q z qa qb, PI h2 a F e y q z qa qb) := by
  refine mm_met_of (L := [some (.ref a)]) rfl rfl (by decide) (Nat.le_of_ble_eq_true rfl) rfl ?_
  refine mw_aload_n (x := a) rfl dX7_init_0 ?_
  refine mw_objinit wq21 wq22 wq23 (by decide) (Nat.le_of_ble_eq_true rfl) dX7_init_1 ?_
  refine mw_aload_n (x := a) rfl dX7_init_4 ?_
  refine mw_new okc4 wq24 wq25 wq2 dX7_init_5 (by decide) (by decide) (fun s hs => ?_)
  refine mw_dup rfl dX7_init_8 ?_
  have as : a ≠ s := ne_k (by rw [ha]; decide) hs
  refine mw_rI (As := []) (S := [.ref s, .ref a]) (mc_X5_init (h := mm_new h s 5 0) (mm_kself h s 5 0)) (mm_fit_of cbX5_init (by decide) (by decide)) rfl wq26 wq27 rfl rfl rfl (Nat.le_of_ble_eq_true rfl) (by decide) (by decide) dX7_init_9 (fun h1 X1 => ?_)
  obtain ⟨f, X1⟩ := X1
  have ka1 : mm_k h1 a = 7 := by rw [(X1.eq (by rw [kn_ne _ as, ha]; decide) as).1, kn_ne _ as]; exact ha
  have S1 := X1.2.1
  refine mw_putr (k := 0) (x := s) (ty := .object "PartyLines$State") okc6 (by decide) wq229 ka1 (Or.inr ⟨rfl, rfl, rfl⟩) (by decide +kernel) rfl rfl rfl dX7_init_12 ?_
  generalize hB : mm_sp h1 a 0 (some s) = B
  have kaB : mm_k B a = 7 := by rw [← hB, mm_k_sp]; exact ka1
  have pB0 : mm_p B a 0 = some s := by rw [← hB, mm_p_sp, if_pos ⟨rfl, rfl⟩]
  have SB : STp 5 16 B f := by rw [← hB]; exact S1.keep (fun t i v => eqa_sp (S1.ne_of v ka1 (wdk_13 v).2.2.2.2.2.2.1))
  refine mw_aload_n (x := a) rfl dX7_init_15 ?_
  refine mw_new okc0 wq185 wq186 wq5 dX7_init_16 (by decide) (by decide) (fun e he => ?_)
  have ae : a ≠ e := ne_k (by rw [kaB]; decide) he
  refine mw_dup rfl dX7_init_19 ?_
  refine mw_aload_n (x := a) rfl dX7_init_20 ?_
  refine mw_getf (k := 0) (v := .ref s) okc6 (by decide) wq229 (by rw [kn_ne _ ae]; exact kaB) (by show va_rf (mm_p (mm_new B e 1 0) a 0) = .ref s; rw [pn_ne _ ae, pB0]; rfl) dX7_init_21 ?_
  refine mw_rI (As := [.ref s]) (S := [.ref e, .ref a]) (mc_X1_init (h := mm_new B e 1 0) (x := s) (mm_kself B e 1 0)) (mm_fit_of cbX1_init (by decide) (by decide)) rfl wq187 wq188 rfl rfl rfl (Nat.le_of_ble_eq_true rfl) (by decide) (by decide) dX7_init_24 (fun h2 e2 => ?_)
  subst e2
  refine mw_putr (k := 1) (x := e) (ty := .object "PartyLines$Exchange") okc6 (by decide) wq230 (by rw [mm_k_sp, kn_ne _ ae]; exact kaB) (Or.inr ⟨rfl, rfl, rfl⟩) (by decide +kernel) rfl rfl rfl dX7_init_27 ?_
  generalize hE : mm_sp (mm_sp (mm_new B e (0 + 1) 0) e 0 (some s)) a 1 (some e) = E
  have oldE : ∀ b, mm_k B b ≠ 0 → b ≠ a → eqa B E b := fun b hb hba => by
    have be := ne_k hb he
    rw [← hE]; exact (eqa_new be).trans ((eqa_sp be).trans (eqa_sp hba))
  have kaE : mm_k E a = 7 := by rw [← hE, mm_k_sp, mm_k_sp, kn_ne _ ae]; exact kaB
  have pE0 : mm_p E a 0 = some s := by rw [← hE, mm_p_sp, if_neg (by simp), mm_p_sp, if_neg (fun z => ae z.1), pn_ne _ ae]; exact pB0
  have pE1 : mm_p E a 1 = some e := by rw [← hE, mm_p_sp, if_pos ⟨rfl, rfl⟩]
  have keE : mm_k E e = 1 := by rw [← hE, mm_k_sp, mm_k_sp]; exact mm_kself _ _ _ _
  have peE : mm_p E e 0 = some s := by rw [← hE, mm_p_sp, if_neg (fun z => ae z.1.symm), mm_p_sp, if_pos ⟨rfl, rfl⟩]
  have SE : STp 5 16 E f := SB.keep (fun t i v => oldE _ (SB.k0 v) (SB.ne_of v kaB (wdk_13 v).2.2.2.2.2.2.1))
  refine mw_aload_n (x := a) rfl dX7_init_30 ?_
  refine mw_new okc1 wq195 wq196 wq6 dX7_init_31 (by decide) (by decide) (fun y hy => ?_)
  have ay : a ≠ y := ne_k (by rw [kaE]; decide) hy
  have ey : e ≠ y := ne_k (by rw [keE]; decide) hy
  refine mw_dup rfl dX7_init_34 ?_
  refine mw_rI (As := []) (S := [.ref y, .ref a]) (mc_X2_init (h := mm_new E y 2 0) (mm_kself E y 2 0)) (mm_fit_of cbX2_init (by decide) (by decide)) rfl wq197 wq198 rfl rfl rfl (Nat.le_of_ble_eq_true rfl) (by decide) (by decide) dX7_init_35 (fun h3 X3 => ?_)
  obtain ⟨q, Fh, y1, y2, y3, y4, y5, y6, y7, y8, y9, y10⟩ := X3
  have old3 : ∀ b, mm_k E b ≠ 0 → eqa E h3 b := fun b hb => by
    have by_ := ne_k hb hy
    exact (eqa_new by_).trans (y10 b (by rw [kn_ne _ by_]; exact hb) by_)
  have ka3 : mm_k h3 a = 7 := (old3 a (by rw [kaE]; decide)).1.trans kaE
  refine mw_putr (k := 2) (x := y) (ty := .object "PartyLines$History") okc6 (by decide) wq231 ka3 (Or.inr ⟨rfl, rfl, rfl⟩) (by decide +kernel) rfl rfl rfl dX7_init_38 ?_
  generalize hI : mm_sp h3 a 2 (some y) = I
  have eqI : ∀ b, b ≠ a → eqa h3 I b := fun b hb => by rw [← hI]; exact eqa_sp hb
  have kaI : mm_k I a = 7 := by rw [← hI, mm_k_sp]; exact ka3
  have pI : ∀ k, k ≠ 2 → mm_p I a k = mm_p E a k := fun k hk => by
    rw [← hI, mm_p_sp, if_neg (fun z => hk z.2)]; exact (old3 a (by rw [kaE]; decide)).2.2.2.2 k
  have pI2 : mm_p I a 2 = some y := by rw [← hI, mm_p_sp, if_pos ⟨rfl, rfl⟩]
  have Ie : eqa E I e := (old3 e (by rw [keE]; decide)).trans (eqI e (Ne.symm ae))
  have Iy : eqa h3 I y := eqI y (Ne.symm ay)
  have qa_ : q ≠ a := fun z => by rw [z, ka3] at y4; cases y4
  have Iq : eqa h3 I q := eqI q qa_
  have SI_ : STp 5 16 I f := SE.keep (fun t i v => (old3 _ (SE.k0 v)).trans (eqI _ (SE.ne_of v kaE (wdk_13 v).2.2.2.2.2.2.1)))
  have SH : ∀ p, p < 4 → STp 5 16 I (Fh p) := fun p hp => (y7 p hp).1.keep (fun t i v => eqI _ ((y7 p hp).1.ne_of v ka3 (wdk_13 v).2.2.2.2.2.2.1))
  refine mw_aload_n (x := a) rfl dX7_init_41 ?_
  refine mw_new okc3 wq212 wq213 wq7 dX7_init_42 (by decide) (by decide) (fun z hz => ?_)
  have az : a ≠ z := ne_k (by rw [kaI]; decide) hz
  refine mw_dup rfl dX7_init_45 ?_
  refine mw_rIN (As := []) (S := [.ref z, .ref a]) (mc_X4_init (h := mm_new I z 4 0) (mm_kself I z 4 0)) (mm_fit_of cbX4_init (by decide) (by decide)) rfl wq214 wq215 rfl rfl rfl (Nat.le_of_ble_eq_true rfl) (by decide) (by decide) dX7_init_46 (fun h4 X4 => ?_)
  obtain ⟨qa, qb, z1, z2, z3, z4, z5, z6, z7, z8⟩ := X4
  have old4 : ∀ b, mm_k I b ≠ 0 → eqa I h4 b := fun b hb => by
    have bz := ne_k hb hz
    exact (eqa_new bz).trans (z8 b (by rw [kn_ne _ bz]; exact hb) bz)
  have ka4 : mm_k h4 a = 7 := (old4 a (by rw [kaI]; decide)).1.trans kaI
  refine mw_putr (k := 3) (x := z) (ty := .object "PartyLines$SpanTests") okc6 (by decide) wq232 ka4 (Or.inr ⟨rfl, rfl, rfl⟩) (by decide +kernel) rfl rfl rfl dX7_init_49 ?_
  generalize hL : mm_sp h4 a 3 (some z) = Lh
  have eqL : ∀ b, b ≠ a → eqa h4 Lh b := fun b hb => by rw [← hL]; exact eqa_sp hb
  have oldL : ∀ b, mm_k I b ≠ 0 → b ≠ a → eqa I Lh b := fun b hb hba => (old4 b hb).trans (eqL b hba)
  have SF : ∀ g, STp 5 16 I g → STp 5 16 Lh g := fun g S => S.keep (fun t i v => oldL _ (S.k0 v) (S.ne_of v kaI (wdk_13 v).2.2.2.2.2.2.1))
  have La : ∀ k, k ≠ 3 → mm_p Lh a k = mm_p I a k := fun k hk => by
    rw [← hL, mm_p_sp, if_neg (fun w => hk w.2)]; exact (old4 a (by rw [kaI]; decide)).2.2.2.2 k
  have Le := oldL e (by rw [Ie.1, keE]; decide) (Ne.symm ae)
  have Ly := oldL y (by rw [Iy.1, y1]; decide) (Ne.symm ay)
  have Lq := oldL q (by rw [Iq.1, y4]; decide) qa_
  have Lz := eqL z (Ne.symm az)
  have nea : ∀ {x}, x ≤ 13 → qa + x ≠ a := fun hx w => by
    have := (z6 _ hx).1
    rw [w, kn_ne _ az, kaI] at this; cases this
  have neb : ∀ {x}, x ≤ 13 → qb + x ≠ a := fun hx w => by
    have := (z6 _ hx).2
    rw [w, kn_ne _ az, kaI] at this; cases this
  have far : ∀ g, STp 5 16 I g → ∀ t i x, tvp 5 16 t i → x ≤ 13 → g t i ≠ qa + x ∧ g t i ≠ qb + x := fun g S t i x v hx => by
    have k1 : mm_k (mm_new I z 4 0) (g t i) ≠ 0 := by rw [kn_ne _ (ne_k (S.k0 v) hz)]; exact S.k0 v
    exact ⟨fun w => k1 (by rw [w]; exact (z6 x hx).1), fun w => k1 (by rw [w]; exact (z6 x hx).2)⟩
  refine mw_vret rfl dX7_init_52 (by decide) (by decide) ⟨rfl, fun j => if j = 0 then f else Fh (j - 1), e, y, q, z, qa, qb, ⟨?_, ?_, ?_, ?_, ?_⟩, ⟨?_, ?_⟩, ⟨?_, ?_, ?_, ?_, ?_, fun p hp => ?_⟩, fun j hj => ?_, fun j t i j2 t2 i2 hj hj2 v v2 w => ?_, ⟨?_, ?_, ?_, ?_, ?_⟩, z7, fun j t i x hj v hx => ?_⟩
  · rw [← hL, mm_k_sp]; exact ka4
  · rw [La 0 (by decide), pI 0 (by decide), pE0]; simp only [if_pos]; rw [X1.1]
  · rw [La 1 (by decide), pI 1 (by decide), pE1]
  · rw [La 2 (by decide)]; exact pI2
  · rw [← hL, mm_p_sp, if_pos ⟨rfl, rfl⟩]
  · exact Le.1.trans (Ie.1.trans keE)
  · rw [Le.2.2.2.2, Ie.2.2.2.2, peE]; simp only [if_pos]; rw [X1.1]
  · exact Ly.1.trans (Iy.1.trans y1)
  · exact (Ly.2.2.2.2 0).trans ((Iy.2.2.2.2 0).trans y2)
  · exact (Ly.2.2.1 1).trans ((Iy.2.2.1 1).trans y3)
  · exact Lq.1.trans (Iq.1.trans y4)
  · exact Lq.2.1.trans (Iq.2.1.trans y5)
  · rw [Lq.2.2.2.2, Iq.2.2.2.2, (y7 p hp).2]; simp
  · by_cases w : j = 0
    · simp only [if_pos w]; exact SF _ SI_
    · simp only [if_neg w]; exact SF _ (SH (j - 1) (by omega))
  · have cross : ∀ p t i t2 i2, p < 4 → tvp 5 16 t i → tvp 5 16 t2 i2 → f t i ≠ Fh p t2 i2 := fun p t i t2 i2 hp v v2 w => by
      have := y8 p t2 i2 hp v2
      rw [← w, kn_ne _ (ne_k (SE.k0 v) hy)] at this
      exact SE.k0 v this
    by_cases c1 : j = 0
    · by_cases c2 : j2 = 0
      · rw [c1, c2]
      · simp only [if_pos c1, if_neg c2] at w
        exact absurd w (cross (j2 - 1) t i t2 i2 (by omega) v v2)
    · by_cases c2 : j2 = 0
      · simp only [if_neg c1, if_pos c2] at w
        exact absurd w.symm (cross (j - 1) t2 i2 t i (by omega) v2 v)
      · simp only [if_neg c1, if_neg c2] at w
        have := y9 (j - 1) t i (j2 - 1) t2 i2 (by omega) (by omega) v v2 w
        omega
  · exact Lz.1.trans z1
  · exact (Lz.2.2.2.2 0).trans z2
  · exact (Lz.2.2.2.2 1).trans z3
  · exact z4.keep (fun i hi => eqL _ (nea hi))
  · exact z5.keep (fun i hi => eqL _ (neb hi))
  · by_cases w : j = 0
    · simp only [if_pos w]; exact far _ SI_ t i x v hx
    · simp only [if_neg w]; exact far _ (SH (j - 1) (by omega)) t i x v hx
/-! the world as it begins -/
def oF : wd_S := (fun r => if r < 5 then B0 else if r = 8 then NF else fun _ => 0, fun p => p + 1, fun _ => 0)
theorem NF_ag : ∀ x, x < 237 → (x ≤ 40 ∨ 101 ≤ x) → NF x = B0 x := by decide +kernel
theorem NF_zl : ∀ l, l < 5 → 2 ≤ l → NF (20 * l + 1) = 0 ∧ NF (20 * l + 2) = 0 ∧ NF (20 * l + 6) = 0 ∧ NF (20 * l + 8) = 0 := by decide +kernel
theorem Iv_0 : Iv B0 NF 2 0 := by
  have off : ∀ l s, cs_on B0 0 l s = false := fun l s => by
    cases h : cs_on B0 0 l s with
    | false => rfl
    | true => exact absurd (on_iff.1 h).1.1 (by omega)
  refine ⟨⟨rfl, by decide, rfl, by decide, fun s hs => absurd hs (by omega), fun s hs => absurd hs (by omega)⟩, ⟨fun l hl => ⟨Or.inl ?_, Or.inl ?_⟩, fun s hs => ⟨Or.inl (B0_s (by omega) (by omega)), Or.inl (B0_s (by omega) (by omega)), Or.inl (B0_s (by omega) (by omega))⟩⟩, fun x hx => NF_ag x (by unfold us at hx; omega) (by unfold us at hx; omega), fun l hl _ => lpc_mk0 ?_ ⟨?_, ?_, ?_, ?_, off l⟩, fun l hl _ => ⟨fun s h _ => absurd h.1 (by omega), fun s h => absurd h (by rw [off]; decide)⟩, fun l h1 h2 => NF_zl l h2 h1, fun s t hs => absurd hs (by omega)⟩
  · rw [B0_l hl (by decide) (by decide)]; rfl
  · rw [B0_l hl (by decide) (by decide)]; rfl
  · rw [B0_l (by omega) (by decide) (by decide)]; rfl
  · rw [B0_l (by omega) (by decide) (by decide)]; rfl
  · rw [B0_l (by omega) (by decide) (by decide)]; rfl
  · rw [B0_l (by omega) (by decide) (by decide)]; rfl
  · rw [B0_l (by omega) (by decide) (by decide)]; rfl
theorem Rel_0 : Rel oF 2 0 0 := ⟨Iv_0, rfl, rfl, by decide, fun p hp => ⟨by show 1 ≤ p + 1; omega, by show p + 1 < 5; omega⟩, fun p q _ _ h => by have : p + 1 = q + 1 := h; omega, fun p hp => absurd hp (by omega), fun r _ hr => by show bz (if r < 5 then B0 else if r = 8 then NF else fun _ => 0); rw [if_pos hr]; exact Iv_0.2.1⟩
