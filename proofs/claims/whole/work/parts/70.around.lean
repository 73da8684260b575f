/-! what stands around at the law's entry: strings, statics, classes -/
abbrev gvn : List Cond := flatC (Jvm.Cond.and given_1 narrow_1)
theorem sr_45 : Cond.stringRef RX7 45 "there are 5 loops" ∈ lw_tbl := List.mem_of_getElem? (i := 460) (by decide +kernel)
theorem sx_45 : Cond.exactly (.string RX7 45) "java/lang/String" ∈ gvn := List.mem_of_getElem? (i := 53) (by decide +kernel)
theorem sr_298 : Cond.stringRef RX7 298 "no such loop" ∈ lw_tbl := List.mem_of_getElem? (i := 537) (by decide +kernel)
theorem sx_298 : Cond.exactly (.string RX7 298) "java/lang/String" ∈ gvn := List.mem_of_getElem? (i := 74) (by decide +kernel)
theorem sr_72 : Cond.stringRef RX7 72 "position or code is out of range" ∈ lw_tbl := List.mem_of_getElem? (i := 559) (by decide +kernel)
theorem sx_72 : Cond.exactly (.string RX7 72) "java/lang/String" ∈ gvn := List.mem_of_getElem? (i := 91) (by decide +kernel)
theorem sr_82 : Cond.stringRef RX7 82 "no room, or the code is taken" ∈ lw_tbl := List.mem_of_getElem? (i := 570) (by decide +kernel)
theorem sx_82 : Cond.exactly (.string RX7 82) "java/lang/String" ∈ gvn := List.mem_of_getElem? (i := 129) (by decide +kernel)
theorem sr_300 : Cond.stringRef RX7 300 "no such subscriber" ∈ lw_tbl := List.mem_of_getElem? (i := 590) (by decide +kernel)
theorem sx_300 : Cond.exactly (.string RX7 300) "java/lang/String" ∈ gvn := List.mem_of_getElem? (i := 165) (by decide +kernel)
theorem sr_96 : Cond.stringRef RX7 96 "what or value is out of range" ∈ lw_tbl := List.mem_of_getElem? (i := 594) (by decide +kernel)
theorem sx_96 : Cond.exactly (.string RX7 96) "java/lang/String" ∈ gvn := List.mem_of_getElem? (i := 191) (by decide +kernel)
theorem sr_102 : Cond.stringRef RX7 102 "the code is taken, or codes of the loop are rung" ∈ lw_tbl := List.mem_of_getElem? (i := 600) (by decide +kernel)
theorem sx_102 : Cond.exactly (.string RX7 102) "java/lang/String" ∈ gvn := List.mem_of_getElem? (i := 229) (by decide +kernel)
theorem sr_120 : Cond.stringRef RX7 120 "what is out of range" ∈ lw_tbl := List.mem_of_getElem? (i := 608) (by decide +kernel)
theorem sx_120 : Cond.exactly (.string RX7 120) "java/lang/String" ∈ gvn := List.mem_of_getElem? (i := 287) (by decide +kernel)
theorem sr_129 : Cond.stringRef RX7 129 "the receiver is off the hook" ∈ lw_tbl := List.mem_of_getElem? (i := 623) (by decide +kernel)
theorem sx_129 : Cond.exactly (.string RX7 129) "java/lang/String" ∈ gvn := List.mem_of_getElem? (i := 318) (by decide +kernel)
theorem sr_139 : Cond.stringRef RX7 139 "the receiver is on the hook" ∈ lw_tbl := List.mem_of_getElem? (i := 666) (by decide +kernel)
theorem sx_139 : Cond.exactly (.string RX7 139) "java/lang/String" ∈ gvn := List.mem_of_getElem? (i := 358) (by decide +kernel)
theorem sr_161 : Cond.stringRef RX7 161 "it is not the first party of a seized loop" ∈ lw_tbl := List.mem_of_getElem? (i := 692) (by decide +kernel)
theorem sx_161 : Cond.exactly (.string RX7 161) "java/lang/String" ∈ gvn := List.mem_of_getElem? (i := 398) (by decide +kernel)
theorem sr_167 : Cond.stringRef RX7 167 "n is out of range" ∈ lw_tbl := List.mem_of_getElem? (i := 713) (by decide +kernel)
theorem sx_167 : Cond.exactly (.string RX7 167) "java/lang/String" ∈ gvn := List.mem_of_getElem? (i := 454) (by decide +kernel)
theorem sr_175 : Cond.stringRef RX7 175 "limit is out of range" ∈ lw_tbl := List.mem_of_getElem? (i := 749) (by decide +kernel)
theorem sx_175 : Cond.exactly (.string RX7 175) "java/lang/String" ∈ gvn := List.mem_of_getElem? (i := 486) (by decide +kernel)
theorem sr_191 : Cond.stringRef RX7 191 "code is out of range" ∈ lw_tbl := List.mem_of_getElem? (i := 779) (by decide +kernel)
theorem sx_191 : Cond.exactly (.string RX7 191) "java/lang/String" ∈ gvn := List.mem_of_getElem? (i := 523) (by decide +kernel)
theorem sr_213 : Cond.stringRef RX7 213 "codes of the loop are rung" ∈ lw_tbl := List.mem_of_getElem? (i := 828) (by decide +kernel)
theorem sx_213 : Cond.exactly (.string RX7 213) "java/lang/String" ∈ gvn := List.mem_of_getElem? (i := 560) (by decide +kernel)
theorem sr_220 : Cond.stringRef RX7 220 "no such span" ∈ lw_tbl := List.mem_of_getElem? (i := 840) (by decide +kernel)
theorem sx_220 : Cond.exactly (.string RX7 220) "java/lang/String" ∈ gvn := List.mem_of_getElem? (i := 604) (by decide +kernel)
theorem sr_226 : Cond.stringRef RX7 226 "the loop has a fault" ∈ lw_tbl := List.mem_of_getElem? (i := 842) (by decide +kernel)
theorem sx_226 : Cond.exactly (.string RX7 226) "java/lang/String" ∈ gvn := List.mem_of_getElem? (i := 635) (by decide +kernel)
theorem sr_235 : Cond.stringRef RX7 235 "the loop has no fault" ∈ lw_tbl := List.mem_of_getElem? (i := 858) (by decide +kernel)
theorem sx_235 : Cond.exactly (.string RX7 235) "java/lang/String" ∈ gvn := List.mem_of_getElem? (i := 675) (by decide +kernel)
theorem sr_248 : Cond.stringRef RX7 248 "risk is out of range" ∈ lw_tbl := List.mem_of_getElem? (i := 883) (by decide +kernel)
theorem sx_248 : Cond.exactly (.string RX7 248) "java/lang/String" ∈ gvn := List.mem_of_getElem? (i := 717) (by decide +kernel)
theorem sr_253 : Cond.stringRef RX7 253 "span is out of range" ∈ lw_tbl := List.mem_of_getElem? (i := 891) (by decide +kernel)
theorem sx_253 : Cond.exactly (.string RX7 253) "java/lang/String" ∈ gvn := List.mem_of_getElem? (i := 759) (by decide +kernel)
theorem sr_302 : Cond.stringRef RX7 302 "not 1 <= from <= to <= 12" ∈ lw_tbl := List.mem_of_getElem? (i := 903) (by decide +kernel)
theorem sx_302 : Cond.exactly (.string RX7 302) "java/lang/String" ∈ gvn := List.mem_of_getElem? (i := 802) (by decide +kernel)
theorem sr_276 : Cond.stringRef RX7 276 "no state is saved" ∈ lw_tbl := List.mem_of_getElem? (i := 937) (by decide +kernel)
theorem sx_276 : Cond.exactly (.string RX7 276) "java/lang/String" ∈ gvn := List.mem_of_getElem? (i := 851) (by decide +kernel)
theorem ls_0 : Cond.laysStatic Bundle.tN "UNASSIGNED_STACK" Bundle.steD ∈ lw_tbl := List.mem_of_getElem? (i := 446) (by decide +kernel)
theorem ls_1 : Cond.laysStatic Bundle.tN "SUPPRESSED_SENTINEL" Bundle.listD ∈ lw_tbl := List.mem_of_getElem? (i := 448) (by decide +kernel)
theorem ls_2 : Cond.laysStatic RX0 "BY_LENGTH" "[I" ∈ lw_tbl := List.mem_of_getElem? (i := 820) (by decide +kernel)
theorem lr_0 : Cond.isRef (.static Bundle.tN "UNASSIGNED_STACK" Bundle.steD) ∈ gvn := List.mem_of_getElem? (i := 4) (by decide +kernel)
theorem lr_1 : Cond.isRef (.static Bundle.tN "SUPPRESSED_SENTINEL" Bundle.listD) ∈ gvn := List.mem_of_getElem? (i := 5) (by decide +kernel)
theorem bl_a : Cond.arrayOf (.static RX0 "BY_LENGTH" "[I") .int ∈ gvn := List.mem_of_getElem? (i := 7) (by decide +kernel)
theorem bl_n : Cond.eq (.length (.static RX0 "BY_LENGTH" "[I")) (.int 14) ∈ gvn := List.mem_of_getElem? (i := 8) (by decide +kernel)
theorem bl_0 : Cond.eq (.elem (.static RX0 "BY_LENGTH" "[I") (.int 0)) (.int 1) ∈ gvn := List.mem_of_getElem? (i := 9) (by decide +kernel)
theorem bl_1 : Cond.eq (.elem (.static RX0 "BY_LENGTH" "[I") (.int 1)) (.int 2) ∈ gvn := List.mem_of_getElem? (i := 10) (by decide +kernel)
theorem bl_2 : Cond.eq (.elem (.static RX0 "BY_LENGTH" "[I") (.int 2)) (.int 3) ∈ gvn := List.mem_of_getElem? (i := 11) (by decide +kernel)
theorem bl_3 : Cond.eq (.elem (.static RX0 "BY_LENGTH" "[I") (.int 3)) (.int 4) ∈ gvn := List.mem_of_getElem? (i := 12) (by decide +kernel)
theorem bl_4 : Cond.eq (.elem (.static RX0 "BY_LENGTH" "[I") (.int 4)) (.int 5) ∈ gvn := List.mem_of_getElem? (i := 13) (by decide +kernel)
theorem bl_5 : Cond.eq (.elem (.static RX0 "BY_LENGTH" "[I") (.int 5)) (.int 7) ∈ gvn := List.mem_of_getElem? (i := 14) (by decide +kernel)
theorem bl_6 : Cond.eq (.elem (.static RX0 "BY_LENGTH" "[I") (.int 6)) (.int 6) ∈ gvn := List.mem_of_getElem? (i := 15) (by decide +kernel)
theorem bl_7 : Cond.eq (.elem (.static RX0 "BY_LENGTH" "[I") (.int 7)) (.int 8) ∈ gvn := List.mem_of_getElem? (i := 16) (by decide +kernel)
theorem bl_8 : Cond.eq (.elem (.static RX0 "BY_LENGTH" "[I") (.int 8)) (.int 9) ∈ gvn := List.mem_of_getElem? (i := 17) (by decide +kernel)
theorem bl_9 : Cond.eq (.elem (.static RX0 "BY_LENGTH" "[I") (.int 9)) (.int 11) ∈ gvn := List.mem_of_getElem? (i := 18) (by decide +kernel)
theorem bl_10 : Cond.eq (.elem (.static RX0 "BY_LENGTH" "[I") (.int 10)) (.int 10) ∈ gvn := List.mem_of_getElem? (i := 19) (by decide +kernel)
theorem bl_11 : Cond.eq (.elem (.static RX0 "BY_LENGTH" "[I") (.int 11)) (.int 12) ∈ gvn := List.mem_of_getElem? (i := 20) (by decide +kernel)
theorem bl_12 : Cond.eq (.elem (.static RX0 "BY_LENGTH" "[I") (.int 12)) (.int 13) ∈ gvn := List.mem_of_getElem? (i := 21) (by decide +kernel)
theorem bl_13 : Cond.eq (.elem (.static RX0 "BY_LENGTH" "[I") (.int 13)) (.int 14) ∈ gvn := List.mem_of_getElem? (i := 22) (by decide +kernel)
theorem ao_0 : Cond.arrayOver (.object "PartyLines$Loop") ∈ lw_tbl := List.mem_of_getElem? (i := 95) (by decide +kernel)
theorem ao_1 : Cond.arrayOver (.object "PartyLines$Subscriber") ∈ lw_tbl := List.mem_of_getElem? (i := 97) (by decide +kernel)
theorem ao_2 : Cond.arrayOver (.object "PartyLines$State") ∈ lw_tbl := List.mem_of_getElem? (i := 266) (by decide +kernel)
theorem ao_3 : Cond.arrayOver (.array .int) ∈ lw_tbl := List.mem_of_getElem? (i := 283) (by decide +kernel)
theorem nc_0 : Cond.not (.castable "java/lang/IllegalArgumentException" "java/lang/IndexOutOfBoundsException") ∈ gvn := List.mem_of_getElem? (i := 42) (by decide +kernel)
theorem nc_1 : Cond.not (.castable "java/lang/IllegalStateException" "java/lang/IndexOutOfBoundsException") ∈ gvn := List.mem_of_getElem? (i := 41) (by decide +kernel)
theorem nc_2 : Cond.not (.castable "java/lang/IllegalStateException" "java/lang/IllegalArgumentException") ∈ gvn := List.mem_of_getElem? (i := 51) (by decide +kernel)
section
variable {args : Array Value} {s : State} {A : Nat → Prop}
theorem str_1 {k : Nat} {tx : String} (h1 : (Cond.stringRef RX7 k tx).before args s = true) (h2 : (Cond.exactly (.string RX7 k) "java/lang/String").before args s = true) : ∃ a, vk_R RX7 k tx a s := by
  obtain ⟨a, c, cA, kA, q1, -⟩ := Cond.exactly_spec (args := args) (first := s) (o := none) (s := s) (idx := []) (t := .string RX7 k) (cls := "java/lang/String") h2
  exact ⟨a, vk_R.of h1 q1⟩
theorem str_all (hts : ∀ w ∈ lw_tbl, w.before args s = true) (hs : ∀ w ∈ gvn, w.before args s = true) : ∀ q ∈ mm_str, ∃ a, vk_R RX7 q.1 q.2 a s := by
  unfold mm_str
  exact List.forall_mem_cons.mpr ⟨str_1 (hts _ sr_45) (hs _ sx_45), List.forall_mem_cons.mpr ⟨str_1 (hts _ sr_298) (hs _ sx_298), List.forall_mem_cons.mpr ⟨str_1 (hts _ sr_72) (hs _ sx_72), List.forall_mem_cons.mpr ⟨str_1 (hts _ sr_82) (hs _ sx_82), List.forall_mem_cons.mpr ⟨str_1 (hts _ sr_300) (hs _ sx_300), List.forall_mem_cons.mpr ⟨str_1 (hts _ sr_96) (hs _ sx_96), List.forall_mem_cons.mpr ⟨str_1 (hts _ sr_102) (hs _ sx_102), List.forall_mem_cons.mpr ⟨str_1 (hts _ sr_120) (hs _ sx_120), List.forall_mem_cons.mpr ⟨str_1 (hts _ sr_129) (hs _ sx_129), List.forall_mem_cons.mpr ⟨str_1 (hts _ sr_139) (hs _ sx_139), List.forall_mem_cons.mpr ⟨str_1 (hts _ sr_161) (hs _ sx_161), List.forall_mem_cons.mpr ⟨str_1 (hts _ sr_167) (hs _ sx_167), List.forall_mem_cons.mpr ⟨str_1 (hts _ sr_175) (hs _ sx_175), List.forall_mem_cons.mpr ⟨str_1 (hts _ sr_191) (hs _ sx_191), List.forall_mem_cons.mpr ⟨str_1 (hts _ sr_213) (hs _ sx_213), List.forall_mem_cons.mpr ⟨str_1 (hts _ sr_220) (hs _ sx_220), List.forall_mem_cons.mpr ⟨str_1 (hts _ sr_226) (hs _ sx_226), List.forall_mem_cons.mpr ⟨str_1 (hts _ sr_235) (hs _ sx_235), List.forall_mem_cons.mpr ⟨str_1 (hts _ sr_248) (hs _ sx_248), List.forall_mem_cons.mpr ⟨str_1 (hts _ sr_253) (hs _ sx_253), List.forall_mem_cons.mpr ⟨str_1 (hts _ sr_302) (hs _ sx_302), List.forall_mem_cons.mpr ⟨str_1 (hts _ sr_276) (hs _ sx_276), fun _ h => absurd h List.not_mem_nil⟩⟩⟩⟩⟩⟩⟩⟩⟩⟩⟩⟩⟩⟩⟩⟩⟩⟩⟩⟩⟩⟩
theorem bl_all (hts : ∀ w ∈ lw_tbl, w.before args s = true) (hs : ∀ w ∈ gvn, w.before args s = true) (hA : ∀ a : Nat, a < s.heap.size → ¬ A a) : ∃ tb, va_Z RX0 "BY_LENGTH" "[I" (.ref tb) A s s.heap ∧ va_T .int tb 14 (fun j => .int (mm_bl j)) A s s.heap := by
  obtain ⟨tb, h1, h2⟩ := va_Tof (tm := .static RX0 "BY_LENGTH" "[I") (ty := .int) (N := 14) (f := fun j => .int (mm_bl j)) (by decide) (hs _ bl_a) (va_eqt (hs _ bl_n)) (fun j hj => by
    have : j = 0 ∨ j = 1 ∨ j = 2 ∨ j = 3 ∨ j = 4 ∨ j = 5 ∨ j = 6 ∨ j = 7 ∨ j = 8 ∨ j = 9 ∨ j = 10 ∨ j = 11 ∨ j = 12 ∨ j = 13 := by omega
    rcases this with rfl | rfl | rfl | rfl | rfl | rfl | rfl | rfl | rfl | rfl | rfl | rfl | rfl | rfl
    · exact va_eqt (hs _ bl_0)
    · exact va_eqt (hs _ bl_1)
    · exact va_eqt (hs _ bl_2)
    · exact va_eqt (hs _ bl_3)
    · exact va_eqt (hs _ bl_4)
    · exact va_eqt (hs _ bl_5)
    · exact va_eqt (hs _ bl_6)
    · exact va_eqt (hs _ bl_7)
    · exact va_eqt (hs _ bl_8)
    · exact va_eqt (hs _ bl_9)
    · exact va_eqt (hs _ bl_10)
    · exact va_eqt (hs _ bl_11)
    · exact va_eqt (hs _ bl_12)
    · exact va_eqt (hs _ bl_13)) hA
  exact ⟨tb, va_Zref (hts _ ls_2) (hts _ (List.mem_filter.mp wq14).1) h1 hA, h2⟩
theorem Am_0 (hts : ∀ w ∈ lw_tbl, w.before args s = true) (hs : ∀ w ∈ gvn, w.before args s = true) (hA : ∀ a : Nat, a < s.heap.size → ¬ A a) : mm_Am A s s.heap :=
  ⟨vx_Zqof (hts _ ls_0) (hts _ (List.mem_filter.mp wq9).1) (hs _ lr_0) hA, vx_Zqof (hts _ ls_1) (hts _ (List.mem_filter.mp wq9).1) (hs _ lr_1) hA, str_all hts hs, bl_all hts hs hA, va_AO.of (hts _ ao_0), va_AO.of (hts _ ao_1), va_AO.of (hts _ ao_2), hts _ ao_3, List.forall_mem_cons.mpr ⟨va_Nc.of (hs _ nc_0), List.forall_mem_cons.mpr ⟨va_Nc.of (hs _ nc_1), List.forall_mem_cons.mpr ⟨va_Nc.of (hs _ nc_2), fun _ h => absurd h List.not_mem_nil⟩⟩⟩, fun w hw => va_Nw.of (mm_nwOn (List.mem_filter.mp hw).2) (hts w (List.mem_filter.mp hw).1)⟩
theorem K_0 (hts : ∀ w ∈ lw_tbl, w.before args s = true) : ∃ D : mm_G, mm_K D s := by
  have hB : ∀ w ∈ mm_B, w.before args s = true := fun w hw => hts w (List.mem_filter.mp hw).1
  obtain ⟨c0, i0, k0⟩ := u_known (C := RX1) (T := TX1) (N := 1) (n := 1) hB okc0.2.2.1 (hB _ wq186)
  obtain ⟨c1, i1, k1⟩ := u_known (C := RX2) (T := TX2) (N := 2) (n := 2) hB okc1.2.2.1 (hB _ wq196)
  obtain ⟨c2, i2, k2⟩ := u_known (C := RX3) (T := TX3) (N := 10) (n := 10) hB okc2.2.2.1 (hB _ wq34)
  obtain ⟨c3, i3, k3⟩ := u_known (C := RX4) (T := TX4) (N := 2) (n := 2) hB okc3.2.2.1 (hB _ wq213)
  obtain ⟨c4, i4, k4⟩ := u_known (C := RX5) (T := TX5) (N := 6) (n := 6) hB okc4.2.2.1 (hB _ wq25)
  obtain ⟨c5, i5, k5⟩ := u_known (C := RX6) (T := TX6) (N := 9) (n := 9) hB okc5.2.2.1 (hB _ wq105)
  obtain ⟨c6, i6, k6⟩ := u_known (C := RX7) (T := TX7) (N := 4) (n := 4) hB okc6.2.2.1 (hB _ wq17)
  obtain ⟨c7, i7, k7⟩ := u_known (C := RX8) (T := TX8) (N := 7) (n := 7) hB okc7.2.2.1 (hB _ wq879)
  obtain ⟨a0, ka0, co0, f0, g0, e0⟩ := Cond.arrayClass_spec (hB _ wq92)
  obtain ⟨a1, ka1, co1, f1, g1, e1⟩ := Cond.arrayClass_spec (hB _ wq1185)
  obtain ⟨co2, a2, ka2, p2, -, g2, e2, f2⟩ := Cond.arrayOver_spec (hts _ ao_0)
  obtain ⟨co3, a3, ka3, p3, -, g3, e3, f3⟩ := Cond.arrayOver_spec (hts _ ao_1)
  obtain ⟨co4, a4, ka4, p4, -, g4, e4, f4⟩ := Cond.arrayOver_spec (hts _ ao_2)
  obtain ⟨co5, a5, ka5, p5, -, g5, e5, f5⟩ := arrayOverA_spec (hts _ ao_3)
  refine ⟨(fun k => if k = 0 then c0 else if k = 1 then c1 else if k = 2 then c2 else if k = 3 then c3 else if k = 4 then c4 else if k = 5 then c5 else if k = 6 then c6 else c7, fun k => if k = 0 then i0 else if k = 1 then i1 else if k = 2 then i2 else if k = 3 then i3 else if k = 4 then i4 else if k = 5 then i5 else if k = 6 then i6 else i7, fun k => if k = 0 then a0 else if k = 1 then a1 else if k = 2 then a2 else if k = 3 then a3 else if k = 4 then a4 else a5), fun k q hq => ?_, fun k q hq => ?_⟩
  · match k, hq with
    | 0, hq => cases hq; exact k0
    | 1, hq => cases hq; exact k1
    | 2, hq => cases hq; exact k2
    | 3, hq => cases hq; exact k3
    | 4, hq => cases hq; exact k4
    | 5, hq => cases hq; exact k5
    | 6, hq => cases hq; exact k6
    | 7, hq => cases hq; exact k7
    | k + 8, hq => simp at hq
  · match k, hq with
    | 0, hq => cases hq; exact ⟨fun N z => ⟨(fun k h => by cases h), ka0, g0, co0, e0⟩, f0⟩
    | 1, hq => cases hq; exact ⟨fun N z => ⟨(fun k h => by cases h), ka1, g1, co1, e1⟩, f1⟩
    | 2, hq => cases hq; exact ⟨fun N z => ⟨(fun k h => by cases h), ka2, g2, co2, e2⟩, ⟨ka2, co2, g2, e2, p2, f2⟩⟩
    | 3, hq => cases hq; exact ⟨fun N z => ⟨(fun k h => by cases h), ka3, g3, co3, e3⟩, ⟨ka3, co3, g3, e3, p3, f3⟩⟩
    | 4, hq => cases hq; exact ⟨fun N z => ⟨(fun k h => by cases h), ka4, g4, co4, e4⟩, ⟨ka4, co4, g4, e4, p4, f4⟩⟩
    | 5, hq => cases hq; exact ⟨fun N z => ⟨(fun k h => by cases h), ka5, g5, co5, e5⟩, f5⟩
    | k + 6, hq => simp [mm_tys] at hq
end
