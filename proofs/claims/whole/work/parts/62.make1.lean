/-! what constructors make: small ones -/
def eqa (h h2 : mm_H) (b : Nat) : Prop := mm_k h2 b = mm_k h b ∧ mm_n h2 b = mm_n h b ∧ (∀ k, mm_i h2 b k = mm_i h b k) ∧ (∀ k, mm_j h2 b k = mm_j h b k) ∧ ∀ k, mm_p h2 b k = mm_p h b k
theorem eqa.rfl' {h : mm_H} {b : Nat} : eqa h h b := ⟨rfl, rfl, fun _ => rfl, fun _ => rfl, fun _ => rfl⟩
theorem eqa.trans {h h2 h3 : mm_H} {b : Nat} (x : eqa h h2 b) (y : eqa h2 h3 b) : eqa h h3 b := ⟨y.1.trans x.1, y.2.1.trans x.2.1, fun k => (y.2.2.1 k).trans (x.2.2.1 k), fun k => (y.2.2.2.1 k).trans (x.2.2.2.1 k), fun k => (y.2.2.2.2 k).trans (x.2.2.2.2 k)⟩
theorem kn_ne (h : mm_H) {q kd n b : Nat} (hb : b ≠ q) : mm_k (mm_new h q kd n) b = mm_k h b := by simp [mm_k, mm_new, hb]
theorem nn_ne (h : mm_H) {q kd n b : Nat} (hb : b ≠ q) : mm_n (mm_new h q kd n) b = mm_n h b := by simp [mm_n, mm_new, hb]
theorem in_ne (h : mm_H) {q kd n b : Nat} (hb : b ≠ q) (k : Nat) : mm_i (mm_new h q kd n) b k = mm_i h b k := by simp [mm_i, mm_new, hb]
theorem jn_ne (h : mm_H) {q kd n b : Nat} (hb : b ≠ q) (k : Nat) : mm_j (mm_new h q kd n) b k = mm_j h b k := by simp [mm_j, mm_new, hb]
theorem pn_ne (h : mm_H) {q kd n b : Nat} (hb : b ≠ q) (k : Nat) : mm_p (mm_new h q kd n) b k = mm_p h b k := by simp [mm_p, mm_new, hb]
theorem in_q (h : mm_H) (q kd n k : Nat) : mm_i (mm_new h q kd n) q k = 0 := by simp [mm_i, mm_new]
theorem jn_q (h : mm_H) (q kd n k : Nat) : mm_j (mm_new h q kd n) q k = 0 := by simp [mm_j, mm_new]
theorem eqa_new {h : mm_H} {q kd n b : Nat} (hb : b ≠ q) : eqa h (mm_new h q kd n) b := ⟨kn_ne h hb, nn_ne h hb, in_ne h hb, jn_ne h hb, pn_ne h hb⟩
theorem eqa_si {h : mm_H} {a k b : Nat} {v : Int32} (hb : b ≠ a) : eqa h (mm_si h a k v) b := ⟨rfl, rfl, fun j => by rw [mm_i_si, if_neg (fun q => hb q.1)], fun _ => rfl, fun _ => rfl⟩
theorem eqa_sp {h : mm_H} {a k b : Nat} {v : Option Nat} (hb : b ≠ a) : eqa h (mm_sp h a k v) b := ⟨rfl, rfl, fun _ => rfl, fun _ => rfl, fun j => by rw [mm_p_sp, if_neg (fun q => hb q.1)]⟩
theorem ne_k {h : mm_H} {b q : Nat} (hb : mm_k h b ≠ 0) (hq : mm_k h q = 0) : b ≠ q := fun e => hb (e ▸ hq)
/-- all that was there is kept, but a -/
def kp (h h2 : mm_H) (a : Nat) : Prop := ∀ b, mm_k h b ≠ 0 → b ≠ a → eqa h h2 b
theorem kp.rfl' {h : mm_H} {a : Nat} : kp h h a := fun _ _ _ => eqa.rfl'
theorem kp.k {h h2 : mm_H} {a b : Nat} (x : kp h h2 a) (hb : mm_k h b ≠ 0) (hne : b ≠ a) : mm_k h2 b ≠ 0 := by rw [(x b hb hne).1]; exact hb
theorem kp.step {h h2 h3 : mm_H} {a : Nat} (x : kp h h2 a) (y : ∀ b, mm_k h b ≠ 0 → b ≠ a → mm_k h2 b ≠ 0 → eqa h2 h3 b) : kp h h3 a := fun b hb hne => (x b hb hne).trans (y b hb hne (x.k hb hne))
theorem kp.new {h h2 : mm_H} {a q kd n : Nat} (x : kp h h2 a) (hq : mm_k h2 q = 0) : kp h (mm_new h2 q kd n) a := x.step (fun _ _ _ h3 => eqa_new (ne_k h3 hq))
theorem kp.si {h h2 : mm_H} {a x k : Nat} {v : Int32} (y : kp h h2 a) (hx : x = a ∨ mm_k h x = 0) : kp h (mm_si h2 x k v) a := y.step (fun b hb hne _ => eqa_si (fun e => by subst e; rcases hx with z | z; exact hne z; exact hb z))
theorem kp.sp {h h2 : mm_H} {a x k : Nat} {v : Option Nat} (y : kp h h2 a) (hx : x = a ∨ mm_k h x = 0) : kp h (mm_sp h2 x k v) a := y.step (fun b hb hne _ => eqa_sp (fun e => by subst e; rcases hx with z | z; exact hne z; exact hb z))
/-- fresh now means fresh at the start -/
theorem kp.old {h h2 : mm_H} {a q : Nat} (x : kp h h2 a) (ha : mm_k h2 a ≠ 0) (hq : mm_k h2 q = 0) : mm_k h q = 0 := by
  by_cases e : mm_k h q = 0
  · exact e
  · by_cases ea : q = a
    · subst ea; exact absurd hq ha
    · exact absurd hq (x.k e ea)
section
variable {h : mm_H} {a : Nat}
theorem mc_X3_init {x : Int32} (ha : mm_k h a = 3) : mm_Met MX3_init [.ref a, .int x] h (fun r h2 => r = .inl none ∧ ∃ q, mm_k h q = 0 ∧ h2 = mm_si (mm_sp (mm_new h q 9 13) a 9 (some q)) a 0 x) := by
  refine mm_met_of (L := [some (.ref a), some (.int x)]) rfl rfl (by decide) (Nat.le_of_ble_eq_true rfl) rfl ?_
  refine mw_aload_n (x := a) rfl dX3_init_0 ?_
  refine mw_objinit wq38 wq22 wq23 (by decide) (Nat.le_of_ble_eq_true rfl) dX3_init_1 ?_
  refine mw_aload_n (x := a) rfl dX3_init_4 ?_
  refine mw_bipush (v := 13) (by decide) dX3_init_5 ?_
  refine mw_newa (at2 := .int) (ty := 0) (N := 13) (by decide) rfl wq92 (by decide) (by decide) (by decide) dX3_init_7 (by decide) (by decide) (fun q hq => ?_)
  have hne : a ≠ q := ne_k (by rw [ha]; decide) hq
  refine mw_putr (k := 9) (x := q) (ty := .array .int) okc2 (by decide) wq69 (by rw [kn_ne h hne]; exact ha) (Or.inr ⟨rfl, rfl, rfl⟩) (by decide +kernel) rfl rfl rfl dX3_init_9 ?_
  refine mw_aload_n (x := a) rfl dX3_init_12 ?_
  refine mw_iload_n (x := x) rfl dX3_init_13 ?_
  refine mw_puti (k := 0) okc2 (by decide) wq39 (by rw [mm_k_sp, kn_ne h hne]; exact ha) (Or.inr ⟨rfl, rfl, rfl⟩) (by decide +kernel) rfl dX3_init_14 ?_
  exact mw_vret rfl dX3_init_17 (by decide) (by decide) ⟨rfl, q, hq, rfl⟩
theorem mc_X6_init {x : Int32} (ha : mm_k h a = 6) : mm_Met MX6_init [.ref a, .int x] h (fun r h2 => r = .inl none ∧ h2 = mm_si h a 0 x) := by
  refine mm_met_of (L := [some (.ref a), some (.int x)]) rfl rfl (by decide) (Nat.le_of_ble_eq_true rfl) rfl ?_
  refine mw_aload_n (x := a) rfl dX6_init_0 ?_
  refine mw_objinit wq109 wq22 wq23 (by decide) (Nat.le_of_ble_eq_true rfl) dX6_init_1 ?_
  refine mw_aload_n (x := a) rfl dX6_init_4 ?_
  refine mw_iload_n (x := x) rfl dX6_init_5 ?_
  refine mw_puti (k := 0) okc5 (by decide) wq110 ha (Or.inr ⟨rfl, rfl, rfl⟩) (by decide +kernel) rfl dX6_init_6 ?_
  exact mw_vret rfl dX6_init_9 (by decide) (by decide) ⟨rfl, rfl⟩
theorem mc_X1_init {x : Nat} (ha : mm_k h a = 1) : mm_Met MX1_init [.ref a, .ref x] h (fun r h2 => r = .inl none ∧ h2 = mm_sp h a 0 (some x)) := by
  refine mm_met_of (L := [some (.ref a), some (.ref x)]) rfl rfl (by decide) (Nat.le_of_ble_eq_true rfl) rfl ?_
  refine mw_aload_n (x := a) rfl dX1_init_0 ?_
  refine mw_objinit wq190 wq22 wq23 (by decide) (Nat.le_of_ble_eq_true rfl) dX1_init_1 ?_
  refine mw_aload_n (x := a) rfl dX1_init_4 ?_
  refine mw_aload_n (x := x) rfl dX1_init_5 ?_
  refine mw_putr (k := 0) (x := x) (ty := .object "PartyLines$State") okc0 (by decide) wq191 ha (Or.inr ⟨rfl, rfl, rfl⟩) (by decide +kernel) rfl rfl rfl dX1_init_6 ?_
  exact mw_vret rfl dX1_init_9 (by decide) (by decide) ⟨rfl, rfl⟩
theorem mc_X3_comeTo0 (ha : mm_k h a = 3) : mm_Met MX3_comeTo [.ref a, .int 0] h (fun r h2 => r = .inl none ∧ h2 = mm_si (mm_si (mm_si (mm_si (mm_si (mm_si h a 1 0) a 2 0) a 6 0) a 3 (-1)) a 4 (-1)) a 5 (-1)) := by
  refine mm_met_of (L := [some (.ref a), some (.int 0)]) rfl rfl (by decide) (Nat.le_of_ble_eq_true rfl) rfl ?_
  refine mw_aload_n (x := a) rfl dX3_comeTo_0 ?_
  refine mw_iload_n (x := 0) rfl dX3_comeTo_1 ?_
  refine mw_puti (k := 1) okc2 (by decide) wq43 ha (Or.inl rfl) (by decide +kernel) rfl dX3_comeTo_2 ?_
  refine mw_aload_n (x := a) rfl dX3_comeTo_5 ?_
  refine mw_iconst (v := 0) (by decide) dX3_comeTo_6 ?_
  refine mw_puti (k := 2) okc2 (by decide) wq46 ha (Or.inl rfl) (by decide +kernel) rfl dX3_comeTo_7 ?_
  refine mw_aload_n (x := a) rfl dX3_comeTo_10 ?_
  refine mw_iconst (v := 0) (by decide) dX3_comeTo_11 ?_
  refine mw_putz (k := 6) (Or.inl rfl) okc2 (by decide) wq60 ha (Or.inl rfl) (by decide +kernel) rfl dX3_comeTo_12 ?_
  refine mw_iload_n (x := 0) rfl dX3_comeTo_15 ?_
  refine mw_if_ne (tgt := 24) dX3_comeTo_16 (by decide) (fun z => absurd rfl z) (fun _ => ?_)
  refine mw_aload_n (x := a) rfl dX3_comeTo_19 ?_
  refine mw_iconst (v := -1) (by decide) dX3_comeTo_20 ?_
  refine mw_puti (k := 3) okc2 (by decide) wq50 ha (Or.inl rfl) (by decide +kernel) rfl dX3_comeTo_21 ?_
  refine mw_iload_n (x := 0) rfl dX3_comeTo_24 ?_
  refine mw_bipush (v := 6) (by decide) dX3_comeTo_25 ?_
  refine mw_icmp_ge (tgt := 35) dX3_comeTo_27 (by decide) (fun z => absurd z (by decide)) (fun _ => ?_)
  refine mw_aload_n (x := a) rfl dX3_comeTo_30 ?_
  refine mw_iconst (v := -1) (by decide) dX3_comeTo_31 ?_
  refine mw_puti (k := 4) okc2 (by decide) wq53 ha (Or.inl rfl) (by decide +kernel) rfl dX3_comeTo_32 ?_
  refine mw_iload_n (x := 0) rfl dX3_comeTo_35 ?_
  refine mw_iconst (v := 2) (by decide) dX3_comeTo_36 ?_
  refine mw_icmp_lt (tgt := 45) dX3_comeTo_37 (by decide) (fun _ => ?_) (fun z => absurd (by decide) z)
  refine mw_aload_n (x := a) rfl dX3_comeTo_45 ?_
  refine mw_iconst (v := -1) (by decide) dX3_comeTo_46 ?_
  refine mw_puti (k := 5) okc2 (by decide) wq58 ha (Or.inl rfl) (by decide +kernel) rfl dX3_comeTo_47 ?_
  exact mw_vret rfl dX3_comeTo_50 (by decide) (by decide) ⟨rfl, rfl⟩
theorem mc_X3_clear (ha : mm_k h a = 3) : mm_Met MX3_clearFault [.ref a] h (fun r h2 => r = .inl none ∧ h2 = mm_si (mm_si h a 7 (-1)) a 8 0) := by
  refine mm_met_of (L := [some (.ref a)]) rfl rfl (by decide) (Nat.le_of_ble_eq_true rfl) rfl ?_
  refine mw_aload_n (x := a) rfl dX3_clearFault_0 ?_
  refine mw_iconst (v := -1) (by decide) dX3_clearFault_1 ?_
  refine mw_puti (k := 7) okc2 (by decide) wq63 ha (Or.inl rfl) (by decide +kernel) rfl dX3_clearFault_2 ?_
  refine mw_aload_n (x := a) rfl dX3_clearFault_5 ?_
  refine mw_iconst (v := 0) (by decide) dX3_clearFault_6 ?_
  refine mw_putz (k := 8) (Or.inl rfl) okc2 (by decide) wq66 ha (Or.inl rfl) (by decide +kernel) rfl dX3_clearFault_7 ?_
  exact mw_vret rfl dX3_clearFault_10 (by decide) (by decide) ⟨rfl, rfl⟩
end
/-- a call on an object that returns nothing -/
theorem mw_rV {M M2 : mm_M} {pc : Nat} {L : List (Option Value)} {S : List Value} {h : mm_H} {cc cs : Nat} {Post : mm_Q} {Q : mm_H → Prop} {a ci idx n : Nat} {As st : List Value} (hM : mm_Met M2 (.ref a :: As) h (fun r h2 => r = .inl none ∧ Q h2)) (hf : mm_fit M M2 n) (hl : Cond.methodLink (mm_my M).cls idx (mm_my M2) ∈ mm_B) (ho : cvo M2 ci) (hk : mm_k h a = ci + 1) (hn : As.length = n) (hst : As.reverse ++ .ref a :: S = st) (hcat : (S.map fun v => v.category).sum ≤ 8) (hcc : cc + (mm_mo M2).cells ≤ (mm_mo M).cells) (hcs : cs + (mm_mo M2).slots ≤ (mm_mo M).slots) (d : decode (mm_mc M) pc = .ok (.invokevirtual idx, 3)) (k : ∀ h2, Q h2 → MW M (pc + 3) L S h2 (cc + (mm_mo M2).cells) (cs + (mm_mo M2).slots) Post) : MW M pc L st h cc cs Post := by
  obtain ⟨c1, c2, c3, r, c4, c5⟩ := ho
  exact mw_invV hf hl c1 c2 c4 c3 c5 hk hn hst hcat d hcc hcs hM (fun v h2 q => by obtain ⟨q1, q2⟩ := q; cases q1; exact k h2 q2) (fun E h2 q => by obtain ⟨q1, _⟩ := q; cases q1)
/-- a constructor's call -/
theorem mw_rI {M M2 : mm_M} {pc : Nat} {L : List (Option Value)} {S : List Value} {h : mm_H} {cc cs : Nat} {Post : mm_Q} {Q : mm_H → Prop} {a idx n : Nat} {As st : List Value} (hM : mm_Met M2 (.ref a :: As) h (fun r h2 => r = .inl none ∧ Q h2)) (hf : mm_fit M M2 n) (hr : mm_mr M2 = none) (hl : Cond.methodLink (mm_my M).cls idx (mm_my M2) ∈ mm_B) (hi : Cond.instanceMethod (mm_my M2) ∈ mm_B) (hnm : (mm_my M2).name = "<init>") (hn : As.length = n) (hst : As.reverse ++ .ref a :: S = st) (hcat : (S.map fun v => v.category).sum ≤ 8) (hcc : cc + (mm_mo M2).cells ≤ (mm_mo M).cells) (hcs : cs + (mm_mo M2).slots ≤ (mm_mo M).slots) (d : decode (mm_mc M) pc = .ok (.invokespecial idx, 3)) (k : ∀ h2, Q h2 → MW M (pc + 3) L S h2 (cc + (mm_mo M2).cells) (cs + (mm_mo M2).slots) Post) : MW M pc L st h cc cs Post :=
  mw_invI hf hr hl hi hnm hn hst hcat d hcc hcs hM (fun v h2 q => by obtain ⟨q1, q2⟩ := q; cases q1; exact k h2 q2) (fun E h2 q => by obtain ⟨q1, _⟩ := q; cases q1)
theorem mw_rIN {M M2 : mm_M} {pc : Nat} {L : List (Option Value)} {S : List Value} {h : mm_H} {cc cs : Nat} {Post : mm_Q} {Q : mm_H → Prop} {a idx n : Nat} {host : String} {As st : List Value} (hM : mm_Met M2 (.ref a :: As) h (fun r h2 => r = .inl none ∧ Q h2)) (hf : mm_fit M M2 n) (hr : mm_mr M2 = none) (hl : Cond.methodLinkNest (mm_my M).cls idx (mm_my M2) host ∈ mm_nw) (hi : Cond.instanceMethod (mm_my M2) ∈ mm_B) (hnm : (mm_my M2).name = "<init>") (hn : As.length = n) (hst : As.reverse ++ .ref a :: S = st) (hcat : (S.map fun v => v.category).sum ≤ 8) (hcc : cc + (mm_mo M2).cells ≤ (mm_mo M).cells) (hcs : cs + (mm_mo M2).slots ≤ (mm_mo M).slots) (d : decode (mm_mc M) pc = .ok (.invokespecial idx, 3)) (k : ∀ h2, Q h2 → MW M (pc + 3) L S h2 (cc + (mm_mo M2).cells) (cs + (mm_mo M2).slots) Post) : MW M pc L st h cc cs Post :=
  mw_invIN hf hr hl hi hnm hn hst hcat d hcc hcs hM (fun v h2 q => by obtain ⟨q1, q2⟩ := q; cases q1; exact k h2 q2) (fun E h2 q => by obtain ⟨q1, _⟩ := q; cases q1)
/-- begin, up to risk i -/
def BG (h h2 : mm_H) (a r i : Nat) : Prop := (∀ b, mm_k h2 b = mm_k h b) ∧ (∀ b, mm_n h2 b = mm_n h b) ∧ (∀ b k, mm_j h2 b k = mm_j h b k) ∧ (∀ b k, mm_p h2 b k = mm_p h b k) ∧ (∀ b, b ≠ a → b ≠ r → ∀ k, mm_i h2 b k = mm_i h b k) ∧ (mm_i h2 a 0 = mm_i h a 0 ∧ mm_i h2 a 1 = 0 ∧ mm_i h2 a 2 = 0 ∧ mm_i h2 a 3 = -1 ∧ mm_i h2 a 4 = -1 ∧ mm_i h2 a 5 = -1 ∧ mm_i h2 a 6 = 0 ∧ mm_i h2 a 7 = -1 ∧ mm_i h2 a 8 = 0) ∧ ∀ x, 1 ≤ x → x < i → mm_i h2 r x = 1
theorem BG.eqa {h h2 : mm_H} {a r i b : Nat} (x : BG h h2 a r i) (h1 : b ≠ a) (h3 : b ≠ r) : eqa h h2 b := ⟨x.1 b, x.2.1 b, x.2.2.2.2.1 b h1 h3, x.2.2.1 b, x.2.2.2.1 b⟩
theorem BG.st {h h2 : mm_H} {a r i : Nat} (hne : a ≠ r) (x : BG h h2 a r i) : BG h (mm_si h2 r i 1) a r (i + 1) := by
  obtain ⟨x1, x2, x3, x4, x5, ⟨y0, y1, y2, y3, y4, y5, y6, y7, y8⟩, x7⟩ := x
  have hn : ∀ k, mm_i (mm_si h2 r i 1) a k = mm_i h2 a k := fun k => by rw [mm_i_si, if_neg (fun q => hne q.1)]
  refine ⟨x1, x2, x3, x4, fun b h1 h3 k => ?_, ?_, fun z h1 h3 => ?_⟩
  · rw [mm_i_si, if_neg (fun q => h3 q.1)]; exact x5 b h1 h3 k
  · rw [hn, hn, hn, hn, hn, hn, hn, hn, hn]; exact ⟨y0, y1, y2, y3, y4, y5, y6, y7, y8⟩
  · rw [mm_i_si]
    by_cases e : z = i
    · rw [if_pos ⟨rfl, e⟩]
    · rw [if_neg (fun q => e q.2)]; exact x7 z h1 (by omega)
theorem lp_begin {h : mm_H} {a r : Nat} (ha : mm_k h a = 3) (hp : mm_p h a 9 = some r) (hr : mm_k h r = 9) (hn : mm_n h r = 13) : ∀ (k i : Nat) (h2 : mm_H), i + k = 13 → BG h h2 a r i → MW MX3_begin 11 [some (.ref a), some (.int (nI i))] [] h2 0 0 (fun q h3 => q = .inl none ∧ BG h h3 a r 13) := by
  have hne : a ≠ r := fun e => by rw [e, hr] at ha; cases ha
  intro k
  induction k with
  | zero =>
    intro i h2 hi X
    have : i = 13 := by omega
    subst this
    refine mw_iload_n (x := nI 13) rfl dX3_begin_11 ?_
    refine mw_bipush (v := 12) (by decide) dX3_begin_12 ?_
    refine mw_icmp_gt (tgt := 30) dX3_begin_14 (by decide) (fun _ => ?_) (fun z => absurd (by decide) z)
    exact mw_vret rfl dX3_begin_30 (by decide) (by decide) ⟨rfl, X⟩
  | succ k ih =>
    intro i h2 hi X
    refine mw_iload_n (x := nI i) rfl dX3_begin_11 ?_
    refine mw_bipush (v := 12) (by decide) dX3_begin_12 ?_
    refine mw_icmp_gt (tgt := 30) dX3_begin_14 (by decide) (fun z => absurd z (nI_nlt (a := 12) (by omega) (by omega))) (fun _ => ?_)
    refine mw_aload_n (x := a) rfl dX3_begin_17 ?_
    refine mw_getf (k := 9) (v := .ref r) okc2 (by decide) wq69 ((X.1 a).trans ha) (by show va_rf (mm_p h2 a 9) = .ref r; rw [X.2.2.2.1, hp]; rfl) dX3_begin_18 ?_
    refine mw_iload_n (x := nI i) rfl dX3_begin_21 ?_
    refine mw_iconst (v := 1) (by decide) dX3_begin_22 ?_
    refine mw_iast ((X.1 r).trans hr) (by rw [X.2.1, hn]; exact nI_in (by omega) (by decide)) dX3_begin_23 ?_
    rw [nI_clamp (by omega)]
    refine mw_iinc (n := 1) (x := nI i) (v := nI (i + 1)) (L2 := [some (.ref a), some (.int (nI (i + 1)))]) dX3_begin_24 rfl (nI_add i 1) (by decide) rfl rfl ?_
    refine mw_goto (tgt := 11) (by decide) dX3_begin_27 ?_
    exact ih (i + 1) _ (by omega) (X.st hne)
theorem mc_X3_begin {h : mm_H} {a r : Nat} (ha : mm_k h a = 3) (hp : mm_p h a 9 = some r) (hr : mm_k h r = 9) (hn : mm_n h r = 13) : mm_Met MX3_begin [.ref a] h (fun q h3 => q = .inl none ∧ BG h h3 a r 13) := by
  have hne : a ≠ r := fun e => by rw [e, hr] at ha; cases ha
  refine mm_met_of (L := [some (.ref a), none]) rfl rfl (by decide) (Nat.le_of_ble_eq_true rfl) rfl ?_
  refine mw_aload_n (x := a) rfl dX3_begin_0 ?_
  refine mw_iconst (v := 0) (by decide) dX3_begin_1 ?_
  refine mw_rV (As := [.int 0]) (S := []) (mc_X3_comeTo0 ha) (mm_fit_of cbX3_comeTo (by decide) (by decide)) wq97 cvX3_comeTo ha rfl rfl (Nat.le_of_ble_eq_true rfl) (by decide) (by decide) dX3_begin_2 (fun h2 e2 => ?_)
  subst e2
  refine mw_aload_n (x := a) rfl dX3_begin_5 ?_
  refine mw_rV (As := []) (S := []) (mc_X3_clear (h := mm_si (mm_si (mm_si (mm_si (mm_si (mm_si h a 1 0) a 2 0) a 6 0) a 3 (-1)) a 4 (-1)) a 5 (-1)) ha) (mm_fit_of cbX3_clearFault (by decide) (by decide)) wq101 cvX3_clearFault ha rfl rfl (Nat.le_of_ble_eq_true rfl) (by decide) (by decide) dX3_begin_6 (fun h2 e2 => ?_)
  refine mw_iconst (v := 1) (by decide) dX3_begin_9 ?_
  refine mw_istore_n (L2 := [some (.ref a), some (.int (nI 1))]) dX3_begin_10 (by decide) rfl rfl ?_
  refine lp_begin ha hp hr hn 12 1 h2 (by decide) ?_
  subst e2
  refine ⟨fun _ => rfl, fun _ => rfl, fun _ _ => rfl, fun _ _ => rfl, fun b h1 h3 k => ?_, ?_, fun x h1 h3 => absurd h1 (by omega)⟩
  · simp [mm_i_si, h1]
  · simp [mm_i_si]
