/-! the judgement over the world: AW, a method's contract CT -/
def aq (ad : Nat → Nat → Nat → Nat) (F : (Option Value ⊕ String) → wd_S → Prop) : mm_Q := fun r h => ∃ o, wd_P ad h o ∧ F r o
def AW (ad : Nat → Nat → Nat → Nat) (M : mm_M) (pc : Nat) (L : List (Option Value)) (S : List Value) (o : wd_S) (cc cs : Nat) (F : (Option Value ⊕ String) → wd_S → Prop) : Prop := ∀ h, wd_P ad h o → MW M pc L S h cc cs (aq ad F)
def AX (ad : Nat → Nat → Nat → Nat) (M : mm_M) (pc : Nat) (L : List (Option Value)) (o : wd_S) (cc cs : Nat) (F : (Option Value ⊕ String) → wd_S → Prop) (E : String) : Prop := ∀ h, wd_P ad h o → MX M pc L h cc cs (aq ad F) E
def CT (ad : Nat → Nat → Nat → Nat) (M : mm_M) (av : List Value) (o : wd_S) (F : (Option Value ⊕ String) → wd_S → Prop) : Prop := ∀ h, wd_P ad h o → mm_Met M av h (aq ad F)
/-- returns v, and leaves the world o2 -/
def RT (v : Option Value) (o2 : wd_S) : (Option Value ⊕ String) → wd_S → Prop := fun r o => r = .inl v ∧ o = o2
/-- throws E, and leaves the world o2 -/
def XT (E : String) (o2 : wd_S) : (Option Value ⊕ String) → wd_S → Prop := fun r o => r = .inr E ∧ o = o2
/-- a field of a class by the pool of another -/
def fl (own : String) (idx ci k : Nat) : Prop := ∃ r, mm_okc ci r ∧ k < r.2.2 ∧ Cond.fieldLink own idx (r.2.1 k).1 (r.2.1 k).2.1 (r.2.1 k).2.2.1 ∈ mm_B
def flw (own : String) (idx ci k : Nat) (ty : FieldType) : Prop := ∃ r, mm_okc ci r ∧ k < r.2.2 ∧ Cond.fieldLink own idx (r.2.1 k).1 (r.2.1 k).2.1 (r.2.1 k).2.2.1 ∈ mm_B ∧ (r.2.1 k).2.2.2 = false ∧ parseFieldDescriptor (r.2.1 k).2.2.1 = some ty
/-- a method that is called on an object of class ci -/
def cvo (M : mm_M) (ci : Nat) : Prop := Cond.instanceMethod (mm_my M) ∈ mm_B ∧ Cond.selects (mm_my M).cls (mm_my M) (mm_my M) ∈ mm_B ∧ ci < 8 ∧ ∃ r, vwCl[ci]? = some r ∧ r.1 = (mm_my M).cls
theorem CT.post {ad : Nat → Nat → Nat → Nat} {M : mm_M} {av : List Value} {o : wd_S} {F G : (Option Value ⊕ String) → wd_S → Prop} (h : CT ad M av o F) (hp : ∀ r o2, F r o2 → G r o2) : CT ad M av o G := fun h0 W => (h h0 W).post (fun r h2 q => by obtain ⟨o2, q1, q2⟩ := q; exact ⟨o2, q1, hp _ _ q2⟩)
theorem CT.of {ad : Nat → Nat → Nat → Nat} {M : mm_M} {av : List Value} {o : wd_S} {F : (Option Value ⊕ String) → wd_S → Prop} {L : List (Option Value)} (hh : mm_mh M = []) (hsc : mm_ms M = none) (hy : plainName (mm_my M).cls = true) (hlen : (lg_sl av).length ≤ mm_mx M) (hL : mm_ent (mm_mx M) av = L) (hw : AW ad M 0 L [] o 0 0 F) : CT ad M av o F := fun h W => mm_met_of hh hsc hy hlen hL (hw h W)
theorem CT.ofH {ad : Nat → Nat → Nat → Nat} {M : mm_M} {av : List Value} {o : wd_S} {F : (Option Value ⊕ String) → wd_S → Prop} {L : List (Option Value)} (hh : mm_mh M ≠ []) (hsc : mm_ms M = none) (hy : plainName (mm_my M).cls = true) (hlen : (lg_sl av).length ≤ mm_mx M) (hL : mm_ent (mm_mx M) av = L) (hw : AW ad M 0 L [] o 0 0 F) : CT ad M av o F := fun h W => mm_met_ofH hh hsc hy hlen hL (hw h W)
section AWs
variable {ad : Nat → Nat → Nat → Nat} {M : mm_M} {pc : Nat} {L : List (Option Value)} {S : List Value} {o : wd_S} {cc cs : Nat} {F : (Option Value ⊕ String) → wd_S → Prop}
theorem AW.post {G : (Option Value ⊕ String) → wd_S → Prop} (h : AW ad M pc L S o cc cs F) (hp : ∀ r o2, F r o2 → G r o2) : AW ad M pc L S o cc cs G := fun h0 W => mm_post (h h0 W) (fun r h2 q => by obtain ⟨o2, q1, q2⟩ := q; exact ⟨o2, q1, hp _ _ q2⟩)
theorem AW.wide {cc2 cs2 : Nat} (h : AW ad M pc L S o cc2 cs2 F) (h1 : cc ≤ cc2) (h2 : cs ≤ cs2) : AW ad M pc L S o cc cs F := fun h0 W => mm_wide (h h0 W) h1 h2
theorem AW.locs {L2 : List (Option Value)} (h : AW ad M pc L2 S o cc cs F) (hL : ∀ (i : Nat) (v : Value), L2[i]? = some (some v) → L[i]? = some (some v)) : AW ad M pc L S o cc cs F := fun h0 W => mm_locs (h h0 W) hL

theorem aw_iconst {n : Int} {v : Int32} (hv : Int32.ofInt n = v) (d : decode (mm_mc M) pc = .ok (.iconst n, 1)) (k : AW ad M (pc + 1) L (.int v :: S) o cc cs F) : AW ad M pc L (S) o cc cs F := fun h W => mw_iconst hv d (k h W)
theorem aw_bipush {n : Int} {v : Int32} (hv : (Int8.ofInt n).toInt32 = v) (d : decode (mm_mc M) pc = .ok (.bipush n, 2)) (k : AW ad M (pc + 2) L (.int v :: S) o cc cs F) : AW ad M pc L (S) o cc cs F := fun h W => mw_bipush hv d (k h W)
theorem aw_sipush {n : Int} {v : Int32} (hv : (Int16.ofInt n).toInt32 = v) (d : decode (mm_mc M) pc = .ok (.sipush n, 3)) (k : AW ad M (pc + 3) L (.int v :: S) o cc cs F) : AW ad M pc L (S) o cc cs F := fun h W => mw_sipush hv d (k h W)
theorem aw_lconst {n : Fin 2} {v : Int64} (hv : Int64.ofNat (n : Nat) = v) (d : decode (mm_mc M) pc = .ok (.lconst n, 1)) (k : AW ad M (pc + 1) L (.long v :: S) o cc cs F) : AW ad M pc L (S) o cc cs F := fun h W => mw_lconst hv d (k h W)
theorem aw_ldc2 {idx : Nat} {v : Int64} (hw : Cond.constantLong (mm_my M).cls idx v ∈ mm_B) (d : decode (mm_mc M) pc = .ok (.ldc2_w idx, 3)) (k : AW ad M (pc + 3) L (.long v :: S) o cc cs F) : AW ad M pc L (S) o cc cs F := fun h W => mw_ldc2 hw d (k h W)
theorem aw_iload_n {i : Fin 4} {x : Int32} (hl : L[(i : Nat)]? = some (some (.int x))) (d : decode (mm_mc M) pc = .ok (.iload_n i, 1)) (k : AW ad M (pc + 1) L (.int x :: S) o cc cs F) : AW ad M pc L (S) o cc cs F := fun h W => mw_iload_n hl d (k h W)
theorem aw_iload {i : Nat} {x : Int32} (hl : L[i]? = some (some (.int x))) (d : decode (mm_mc M) pc = .ok (.iload i, 2)) (k : AW ad M (pc + 2) L (.int x :: S) o cc cs F) : AW ad M pc L (S) o cc cs F := fun h W => mw_iload hl d (k h W)
theorem aw_lload_n {i : Fin 4} {x : Int64} (hl : L[(i : Nat)]? = some (some (.long x))) (d : decode (mm_mc M) pc = .ok (.lload_n i, 1)) (k : AW ad M (pc + 1) L (.long x :: S) o cc cs F) : AW ad M pc L (S) o cc cs F := fun h W => mw_lload_n hl d (k h W)
theorem aw_lload {i : Nat} {x : Int64} (hl : L[i]? = some (some (.long x))) (d : decode (mm_mc M) pc = .ok (.lload i, 2)) (k : AW ad M (pc + 2) L (.long x :: S) o cc cs F) : AW ad M pc L (S) o cc cs F := fun h W => mw_lload hl d (k h W)
theorem aw_aload_n {i : Fin 4} {x : Nat} (hl : L[(i : Nat)]? = some (some (.ref x))) (d : decode (mm_mc M) pc = .ok (.aload_n i, 1)) (k : AW ad M (pc + 1) L (.ref x :: S) o cc cs F) : AW ad M pc L (S) o cc cs F := fun h W => mw_aload_n hl d (k h W)
theorem aw_aload {i : Nat} {x : Nat} (hl : L[i]? = some (some (.ref x))) (d : decode (mm_mc M) pc = .ok (.aload i, 2)) (k : AW ad M (pc + 2) L (.ref x :: S) o cc cs F) : AW ad M pc L (S) o cc cs F := fun h W => mw_aload hl d (k h W)
theorem aw_aload_nN {i : Fin 4} (hl : L[(i : Nat)]? = some (some .null)) (d : decode (mm_mc M) pc = .ok (.aload_n i, 1)) (k : AW ad M (pc + 1) L (.null :: S) o cc cs F) : AW ad M pc L (S) o cc cs F := fun h W => mw_aload_nN hl d (k h W)
theorem aw_aloadN {i : Nat} (hl : L[i]? = some (some .null)) (d : decode (mm_mc M) pc = .ok (.aload i, 2)) (k : AW ad M (pc + 2) L (.null :: S) o cc cs F) : AW ad M pc L (S) o cc cs F := fun h W => mw_aloadN hl d (k h W)
theorem aw_iadd {x y : Int32}  (d : decode (mm_mc M) pc = .ok (.iadd, 1)) (k : AW ad M (pc + 1) L (.int (x + y) :: S) o cc cs F) : AW ad M pc L (.int y :: .int x :: S) o cc cs F := fun h W => mw_iadd  d (k h W)
theorem aw_isub {x y : Int32}  (d : decode (mm_mc M) pc = .ok (.isub, 1)) (k : AW ad M (pc + 1) L (.int (x - y) :: S) o cc cs F) : AW ad M pc L (.int y :: .int x :: S) o cc cs F := fun h W => mw_isub  d (k h W)
theorem aw_imul {x y : Int32}  (d : decode (mm_mc M) pc = .ok (.imul, 1)) (k : AW ad M (pc + 1) L (.int (x * y) :: S) o cc cs F) : AW ad M pc L (.int y :: .int x :: S) o cc cs F := fun h W => mw_imul  d (k h W)
theorem aw_iand {x y : Int32}  (d : decode (mm_mc M) pc = .ok (.iand, 1)) (k : AW ad M (pc + 1) L (.int (x &&& y) :: S) o cc cs F) : AW ad M pc L (.int y :: .int x :: S) o cc cs F := fun h W => mw_iand  d (k h W)
theorem aw_ior {x y : Int32}  (d : decode (mm_mc M) pc = .ok (.ior, 1)) (k : AW ad M (pc + 1) L (.int (x ||| y) :: S) o cc cs F) : AW ad M pc L (.int y :: .int x :: S) o cc cs F := fun h W => mw_ior  d (k h W)
theorem aw_ishr {x y : Int32}  (d : decode (mm_mc M) pc = .ok (.ishr, 1)) (k : AW ad M (pc + 1) L (.int (x >>> (y &&& 31)) :: S) o cc cs F) : AW ad M pc L (.int y :: .int x :: S) o cc cs F := fun h W => mw_ishr  d (k h W)
theorem aw_idiv {x y : Int32} (hne : ¬ y = 0) (d : decode (mm_mc M) pc = .ok (.idiv, 1)) (k : AW ad M (pc + 1) L (.int (x / y) :: S) o cc cs F) : AW ad M pc L (.int y :: .int x :: S) o cc cs F := fun h W => mw_idiv hne d (k h W)
theorem aw_irem {x y : Int32} (hne : ¬ y = 0) (d : decode (mm_mc M) pc = .ok (.irem, 1)) (k : AW ad M (pc + 1) L (.int (x - x / y * y) :: S) o cc cs F) : AW ad M pc L (.int y :: .int x :: S) o cc cs F := fun h W => mw_irem hne d (k h W)
theorem aw_ladd {x y : Int64}  (d : decode (mm_mc M) pc = .ok (.ladd, 1)) (k : AW ad M (pc + 1) L (.long (x + y) :: S) o cc cs F) : AW ad M pc L (.long y :: .long x :: S) o cc cs F := fun h W => mw_ladd  d (k h W)
theorem aw_lmul {x y : Int64}  (d : decode (mm_mc M) pc = .ok (.lmul, 1)) (k : AW ad M (pc + 1) L (.long (x * y) :: S) o cc cs F) : AW ad M pc L (.long y :: .long x :: S) o cc cs F := fun h W => mw_lmul  d (k h W)
theorem aw_lcmp {x y : Int64}  (d : decode (mm_mc M) pc = .ok (.lcmp, 1)) (k : AW ad M (pc + 1) L (.int (lg_cmp x y) :: S) o cc cs F) : AW ad M pc L (.long y :: .long x :: S) o cc cs F := fun h W => mw_lcmp  d (k h W)
theorem aw_i2l {x : Int32}  (d : decode (mm_mc M) pc = .ok (.i2l, 1)) (k : AW ad M (pc + 1) L (.long x.toInt64 :: S) o cc cs F) : AW ad M pc L (.int x :: S) o cc cs F := fun h W => mw_i2l  d (k h W)
theorem aw_dup {v : Value} (hv : v.category = 1) (d : decode (mm_mc M) pc = .ok (.dup, 1)) (k : AW ad M (pc + 1) L (v :: v :: S) o cc cs F) : AW ad M pc L (v :: S) o cc cs F := fun h W => mw_dup hv d (k h W)
theorem aw_dup2 {v z : Value} (hv : v.category = 1) (hz : z.category = 1) (d : decode (mm_mc M) pc = .ok (.dup2, 1)) (k : AW ad M (pc + 1) L (v :: z :: v :: z :: S) o cc cs F) : AW ad M pc L (v :: z :: S) o cc cs F := fun h W => mw_dup2 hv hz d (k h W)
theorem aw_null   (d : decode (mm_mc M) pc = .ok (.aconst_null, 1)) (k : AW ad M (pc + 1) L (.null :: S) o cc cs F) : AW ad M pc L (S) o cc cs F := fun h W => mw_null  d (k h W)
theorem aw_ifnull {x : Nat} {off : Int}  (d : decode (mm_mc M) pc = .ok (.ifnull off, 3)) (k : AW ad M (pc + 3) L (S) o cc cs F) : AW ad M pc L (.ref x :: S) o cc cs F := fun h W => mw_ifnull  d (k h W)
theorem aw_ifnonnullN {off : Int}  (d : decode (mm_mc M) pc = .ok (.ifnonnull off, 3)) (k : AW ad M (pc + 3) L (S) o cc cs F) : AW ad M pc L (.null :: S) o cc cs F := fun h W => mw_ifnonnullN  d (k h W)
theorem aw_ifnonnull {x : Nat} {off : Int} {tgt : Nat} (ht : (pc : Int) + off = (tgt : Int)) (d : decode (mm_mc M) pc = .ok (.ifnonnull off, 3)) (k : AW ad M (tgt) L (S) o cc cs F) : AW ad M pc L (.ref x :: S) o cc cs F := fun h W => mw_ifnonnull ht d (k h W)
theorem aw_ifnullN {off : Int} {tgt : Nat} (ht : (pc : Int) + off = (tgt : Int)) (d : decode (mm_mc M) pc = .ok (.ifnull off, 3)) (k : AW ad M (tgt) L (S) o cc cs F) : AW ad M pc L (.null :: S) o cc cs F := fun h W => mw_ifnullN ht d (k h W)
theorem aw_goto {off : Int} {tgt : Nat} (ht : (pc : Int) + off = (tgt : Int)) (d : decode (mm_mc M) pc = .ok (.goto off, 3)) (k : AW ad M (tgt) L (S) o cc cs F) : AW ad M pc L (S) o cc cs F := fun h W => mw_goto ht d (k h W)
theorem aw_tableOut {dflt lo hi : Int} {offs : Array Int} {len : Nat} {x : Int32} {tgt : Nat} (hx : x.toInt < lo ∨ hi < x.toInt) (ht : (pc : Int) + dflt = (tgt : Int)) (d : decode (mm_mc M) pc = .ok (.tableswitch dflt lo hi offs, len)) (k : AW ad M (tgt) L (S) o cc cs F) : AW ad M pc L (.int x :: S) o cc cs F := fun h W => mw_tableOut hx ht d (k h W)
theorem aw_tableIn {dflt lo hi : Int} {offs : Array Int} {len : Nat} {x : Int32} {off : Int} {tgt : Nat} (h1 : ¬ x.toInt < lo) (h2 : ¬ hi < x.toInt) (ho : offs[(x.toInt - lo).toNat]? = some off) (ht : (pc : Int) + off = (tgt : Int)) (d : decode (mm_mc M) pc = .ok (.tableswitch dflt lo hi offs, len)) (k : AW ad M (tgt) L (S) o cc cs F) : AW ad M pc L (.int x :: S) o cc cs F := fun h W => mw_tableIn h1 h2 ho ht d (k h W)
theorem aw_if_eq {x : Int32} {off : Int} {tgt : Nat} (ht : (pc : Int) + off = (tgt : Int)) (d : decode (mm_mc M) pc = .ok (.ifCond .eq off, 3)) (kt : x = 0 → AW ad M tgt L S o cc cs F) (kf : ¬ (x = 0) → AW ad M (pc + 3) L S o cc cs F) : AW ad M pc L (.int x :: S) o cc cs F := fun h W => mw_if_eq d ht (fun z => kt z h W) (fun z => kf z h W)
theorem aw_icmp_eq {x y : Int32} {off : Int} {tgt : Nat} (ht : (pc : Int) + off = (tgt : Int)) (d : decode (mm_mc M) pc = .ok (.if_icmp .eq off, 3)) (kt : x = y → AW ad M tgt L S o cc cs F) (kf : ¬ (x = y) → AW ad M (pc + 3) L S o cc cs F) : AW ad M pc L (.int y :: .int x :: S) o cc cs F := fun h W => mw_icmp_eq d ht (fun z => kt z h W) (fun z => kf z h W)
theorem aw_if_ne {x : Int32} {off : Int} {tgt : Nat} (ht : (pc : Int) + off = (tgt : Int)) (d : decode (mm_mc M) pc = .ok (.ifCond .ne off, 3)) (kt : x ≠ 0 → AW ad M tgt L S o cc cs F) (kf : x = 0 → AW ad M (pc + 3) L S o cc cs F) : AW ad M pc L (.int x :: S) o cc cs F := fun h W => mw_if_ne d ht (fun z => kt z h W) (fun z => kf z h W)
theorem aw_icmp_ne {x y : Int32} {off : Int} {tgt : Nat} (ht : (pc : Int) + off = (tgt : Int)) (d : decode (mm_mc M) pc = .ok (.if_icmp .ne off, 3)) (kt : x ≠ y → AW ad M tgt L S o cc cs F) (kf : x = y → AW ad M (pc + 3) L S o cc cs F) : AW ad M pc L (.int y :: .int x :: S) o cc cs F := fun h W => mw_icmp_ne d ht (fun z => kt z h W) (fun z => kf z h W)
theorem aw_if_lt {x : Int32} {off : Int} {tgt : Nat} (ht : (pc : Int) + off = (tgt : Int)) (d : decode (mm_mc M) pc = .ok (.ifCond .lt off, 3)) (kt : x < 0 → AW ad M tgt L S o cc cs F) (kf : ¬ (x < 0) → AW ad M (pc + 3) L S o cc cs F) : AW ad M pc L (.int x :: S) o cc cs F := fun h W => mw_if_lt d ht (fun z => kt z h W) (fun z => kf z h W)
theorem aw_icmp_lt {x y : Int32} {off : Int} {tgt : Nat} (ht : (pc : Int) + off = (tgt : Int)) (d : decode (mm_mc M) pc = .ok (.if_icmp .lt off, 3)) (kt : x < y → AW ad M tgt L S o cc cs F) (kf : ¬ (x < y) → AW ad M (pc + 3) L S o cc cs F) : AW ad M pc L (.int y :: .int x :: S) o cc cs F := fun h W => mw_icmp_lt d ht (fun z => kt z h W) (fun z => kf z h W)
theorem aw_if_ge {x : Int32} {off : Int} {tgt : Nat} (ht : (pc : Int) + off = (tgt : Int)) (d : decode (mm_mc M) pc = .ok (.ifCond .ge off, 3)) (kt : x ≥ 0 → AW ad M tgt L S o cc cs F) (kf : ¬ (x ≥ 0) → AW ad M (pc + 3) L S o cc cs F) : AW ad M pc L (.int x :: S) o cc cs F := fun h W => mw_if_ge d ht (fun z => kt z h W) (fun z => kf z h W)
theorem aw_icmp_ge {x y : Int32} {off : Int} {tgt : Nat} (ht : (pc : Int) + off = (tgt : Int)) (d : decode (mm_mc M) pc = .ok (.if_icmp .ge off, 3)) (kt : x ≥ y → AW ad M tgt L S o cc cs F) (kf : ¬ (x ≥ y) → AW ad M (pc + 3) L S o cc cs F) : AW ad M pc L (.int y :: .int x :: S) o cc cs F := fun h W => mw_icmp_ge d ht (fun z => kt z h W) (fun z => kf z h W)
theorem aw_if_gt {x : Int32} {off : Int} {tgt : Nat} (ht : (pc : Int) + off = (tgt : Int)) (d : decode (mm_mc M) pc = .ok (.ifCond .gt off, 3)) (kt : x > 0 → AW ad M tgt L S o cc cs F) (kf : ¬ (x > 0) → AW ad M (pc + 3) L S o cc cs F) : AW ad M pc L (.int x :: S) o cc cs F := fun h W => mw_if_gt d ht (fun z => kt z h W) (fun z => kf z h W)
theorem aw_icmp_gt {x y : Int32} {off : Int} {tgt : Nat} (ht : (pc : Int) + off = (tgt : Int)) (d : decode (mm_mc M) pc = .ok (.if_icmp .gt off, 3)) (kt : x > y → AW ad M tgt L S o cc cs F) (kf : ¬ (x > y) → AW ad M (pc + 3) L S o cc cs F) : AW ad M pc L (.int y :: .int x :: S) o cc cs F := fun h W => mw_icmp_gt d ht (fun z => kt z h W) (fun z => kf z h W)
theorem aw_if_le {x : Int32} {off : Int} {tgt : Nat} (ht : (pc : Int) + off = (tgt : Int)) (d : decode (mm_mc M) pc = .ok (.ifCond .le off, 3)) (kt : x ≤ 0 → AW ad M tgt L S o cc cs F) (kf : ¬ (x ≤ 0) → AW ad M (pc + 3) L S o cc cs F) : AW ad M pc L (.int x :: S) o cc cs F := fun h W => mw_if_le d ht (fun z => kt z h W) (fun z => kf z h W)
theorem aw_icmp_le {x y : Int32} {off : Int} {tgt : Nat} (ht : (pc : Int) + off = (tgt : Int)) (d : decode (mm_mc M) pc = .ok (.if_icmp .le off, 3)) (kt : x ≤ y → AW ad M tgt L S o cc cs F) (kf : ¬ (x ≤ y) → AW ad M (pc + 3) L S o cc cs F) : AW ad M pc L (.int y :: .int x :: S) o cc cs F := fun h W => mw_icmp_le d ht (fun z => kt z h W) (fun z => kf z h W)
theorem aw_istore_n {i : Fin 4} {x : Int32} {L2 : List (Option Value)} (hn : (i : Nat) < mm_mx M) (hk : mm_ok1 L (i : Nat) = true) (hl : L.set (i : Nat) (some (.int x)) = L2) (d : decode (mm_mc M) pc = .ok (.istore_n i, 1)) (k : AW ad M (pc + 1) L2 S o cc cs F) : AW ad M pc L (.int x :: S) o cc cs F := fun h W => mw_istore_n d hn hk hl (k h W)
theorem aw_istore {i : Nat} {x : Int32} {L2 : List (Option Value)} (hn : i < mm_mx M) (hk : mm_ok1 L i = true) (hl : L.set i (some (.int x)) = L2) (d : decode (mm_mc M) pc = .ok (.istore i, 2)) (k : AW ad M (pc + 2) L2 S o cc cs F) : AW ad M pc L (.int x :: S) o cc cs F := fun h W => mw_istore d hn hk hl (k h W)
theorem aw_astore_n {i : Fin 4} {x : Nat} {L2 : List (Option Value)} (hn : (i : Nat) < mm_mx M) (hk : mm_ok1 L (i : Nat) = true) (hl : L.set (i : Nat) (some (.ref x)) = L2) (d : decode (mm_mc M) pc = .ok (.astore_n i, 1)) (k : AW ad M (pc + 1) L2 S o cc cs F) : AW ad M pc L (.ref x :: S) o cc cs F := fun h W => mw_astore_n d hn hk hl (k h W)
theorem aw_astore {i : Nat} {x : Nat} {L2 : List (Option Value)} (hn : i < mm_mx M) (hk : mm_ok1 L i = true) (hl : L.set i (some (.ref x)) = L2) (d : decode (mm_mc M) pc = .ok (.astore i, 2)) (k : AW ad M (pc + 2) L2 S o cc cs F) : AW ad M pc L (.ref x :: S) o cc cs F := fun h W => mw_astore d hn hk hl (k h W)
theorem aw_lstore_n {i : Fin 4} {x : Int64} {L2 : List (Option Value)} (hn : (i : Nat) + 1 < mm_mx M) (hk : mm_ok1 L (i : Nat) = true) (hl : (L.set (i : Nat) (some (.long x))).set ((i : Nat) + 1) none = L2) (d : decode (mm_mc M) pc = .ok (.lstore_n i, 1)) (k : AW ad M (pc + 1) L2 S o cc cs F) : AW ad M pc L (.long x :: S) o cc cs F := fun h W => mw_lstore_n d hn hk hl (k h W)
theorem aw_lstore {i : Nat} {x : Int64} {L2 : List (Option Value)} (hn : i + 1 < mm_mx M) (hk : mm_ok1 L i = true) (hl : (L.set i (some (.long x))).set (i + 1) none = L2) (d : decode (mm_mc M) pc = .ok (.lstore i, 2)) (k : AW ad M (pc + 2) L2 S o cc cs F) : AW ad M pc L (.long x :: S) o cc cs F := fun h W => mw_lstore d hn hk hl (k h W)
theorem aw_astore_nN {i : Fin 4}  {L2 : List (Option Value)} (hn : (i : Nat) < mm_mx M) (hk : mm_ok1 L (i : Nat) = true) (hl : L.set (i : Nat) (some (.null)) = L2) (d : decode (mm_mc M) pc = .ok (.astore_n i, 1)) (k : AW ad M (pc + 1) L2 S o cc cs F) : AW ad M pc L (.null :: S) o cc cs F := fun h W => mw_astore_nN d hn hk hl (k h W)
theorem aw_astoreN {i : Nat}  {L2 : List (Option Value)} (hn : i < mm_mx M) (hk : mm_ok1 L i = true) (hl : L.set i (some (.null)) = L2) (d : decode (mm_mc M) pc = .ok (.astore i, 2)) (k : AW ad M (pc + 2) L2 S o cc cs F) : AW ad M pc L (.null :: S) o cc cs F := fun h W => mw_astoreN d hn hk hl (k h W)
theorem aw_iinc {i : Nat} {n : Int} {x v : Int32} {L2 : List (Option Value)} (hx : L[i]? = some (some (.int x))) (hv : x + Int32.ofInt n = v) (hn : i < mm_mx M) (hk : mm_ok1 L i = true) (hl : L.set i (some (.int v)) = L2) (d : decode (mm_mc M) pc = .ok (.iinc i n, 3)) (k : AW ad M (pc + 3) L2 S o cc cs F) : AW ad M pc L S o cc cs F := fun h W => mw_iinc d hx hv hn hk hl (k h W)
theorem aw_iret {v : Int32} (hr : mm_mr M = some .int) (hc : cc ≤ (mm_mo M).cells) (hs : cs ≤ (mm_mo M).slots) (d : decode (mm_mc M) pc = .ok (.ireturn, 1)) (hp : F (.inl (some (.int v))) o) : AW ad M pc L [.int v] o cc cs F := fun h W => mw_iret hr d hc hs ⟨o, W, hp⟩
theorem aw_zret {v : Int32} (hr : mm_mr M = some .boolean) (hv : v = 0 ∨ v = 1) (hc : cc ≤ (mm_mo M).cells) (hs : cs ≤ (mm_mo M).slots) (d : decode (mm_mc M) pc = .ok (.ireturn, 1)) (hp : F (.inl (some (.int v))) o) : AW ad M pc L [.int v] o cc cs F := fun h W => mw_zret hr hv d hc hs ⟨o, W, hp⟩
theorem aw_vret (hr : mm_mr M = none) (hc : cc ≤ (mm_mo M).cells) (hs : cs ≤ (mm_mo M).slots) (d : decode (mm_mc M) pc = .ok (.return_, 1)) (hp : F (.inl none) o) : AW ad M pc L [] o cc cs F := fun h W => mw_vret hr d hc hs ⟨o, W, hp⟩
theorem aw_lret {v : Int64} (hr : mm_mr M = some .long) (hc : cc ≤ (mm_mo M).cells) (hs : cs ≤ (mm_mo M).slots) (d : decode (mm_mc M) pc = .ok (.lreturn, 1)) (hp : F (.inl (some (.long v))) o) : AW ad M pc L [.long v] o cc cs F := fun h W => mw_lret hr d hc hs ⟨o, W, hp⟩
theorem aw_aret {v : Value} {n : String} (hr : mm_mr M = some (.object n)) (hv : v = .null ∨ ∃ a, v = .ref a) (hc : cc ≤ (mm_mo M).cells) (hs : cs ≤ (mm_mo M).slots) (d : decode (mm_mc M) pc = .ok (.areturn, 1)) (hp : F (.inl (some v)) o) : AW ad M pc L [v] o cc cs F := fun h W => mw_aret hr hv d hc hs ⟨o, W, hp⟩
theorem aw_geti {t j i k ci idx : Nat} {q : Nat × Nat} {x : Int32} (hv : wd_v t j i) (hi : wd_i t j i k = some q) (hx : o.1 q.1 q.2 = x) (hl : fl (mm_my M).cls idx ci k) (ht : wd_k t = ci + 1) (hf : mm_ft ci k = 0 ∨ mm_ft ci k = 3) (d : decode (mm_mc M) pc = .ok (.getfield idx, 3)) (kk : AW ad M (pc + 3) L (.int x :: S) o cc cs F) : AW ad M pc L (.ref (ad t j i) :: S) o cc cs F := fun h W => by
  obtain ⟨r, h1, h2, h3⟩ := hl
  refine mw_getf h1 h2 h3 ((W.2.1 t j i hv).trans ht) (v := .int x) ?_ d (kk h W)
  rw [← hx, ← W.2.2.2.2.1 t j i k q hv hi]
  rcases hf with hf | hf <;> simp [mm_fv, mm_val, hf]
theorem aw_num {t j i ci idx : Nat} (ht1 : t = 1 ∨ t = 3) (hv : wd_v t j i) (hl : fl (mm_my M).cls idx ci 0) (ht : wd_k t = ci + 1) (hf : mm_ft ci 0 = 0) (d : decode (mm_mc M) pc = .ok (.getfield idx, 3)) (kk : AW ad M (pc + 3) L (.int (nI i) :: S) o cc cs F) : AW ad M pc L (.ref (ad t j i) :: S) o cc cs F := fun h W => by
  obtain ⟨r, h1, h2, h3⟩ := hl
  refine mw_getf h1 h2 h3 ((W.2.1 t j i hv).trans ht) (v := .int (nI i)) ?_ d (kk h W)
  have hn : mm_i h (ad t j i) 0 = nI i := by
    rcases ht1 with rfl | rfl
    · exact W.2.2.2.2.2.1.1 j i hv
    · exact W.2.2.2.2.2.1.2 j i hv
  simp [mm_fv, mm_val, hf, hn]
theorem aw_getr {t j i k ci idx : Nat} {q : Nat × Nat × Nat} (hv : wd_v t j i) (hi : wd_r o.2.1 t j i k = some q) (hl : fl (mm_my M).cls idx ci k) (ht : wd_k t = ci + 1) (hf : mm_ft ci k = 2) (d : decode (mm_mc M) pc = .ok (.getfield idx, 3)) (kk : AW ad M (pc + 3) L (.ref (ad q.1 q.2.1 q.2.2) :: S) o cc cs F) : AW ad M pc L (.ref (ad t j i) :: S) o cc cs F := fun h W => by
  obtain ⟨r, h1, h2, h3⟩ := hl
  refine mw_getf h1 h2 h3 ((W.2.1 t j i hv).trans ht) (v := .ref (ad q.1 q.2.1 q.2.2)) ?_ d (kk h W)
  simp [mm_fv, mm_val, hf, W.2.2.2.1 t j i k q hv hi, va_rf]
theorem aw_getl {idx : Nat} (hl : fl (mm_my M).cls idx 7 6) (d : decode (mm_mc M) pc = .ok (.getfield idx, 3)) (kk : AW ad M (pc + 3) L (.long (o.2.2 0) :: S) o cc cs F) : AW ad M pc L (.ref (ad 14 0 0) :: S) o cc cs F := fun h W => by
  obtain ⟨r, h1, h2, h3⟩ := hl
  refine mw_getf h1 h2 h3 (W.2.1 14 0 0 (by simp [wd_v])) (v := .long (o.2.2 0)) ?_ d (kk h W)
  rw [← W.2.2.2.2.2.2.1.1]
  rfl
theorem aw_puti {t j i k ci idx : Nat} {q : Nat × Nat} {x : Int32} (hv : wd_v t j i) (hi : wd_i t j i k = some q) (hl : flw (mm_my M).cls idx ci k .int) (ht : wd_k t = ci + 1) (hf : mm_ft ci k = 0) (d : decode (mm_mc M) pc = .ok (.putfield idx, 3)) (kk : AW ad M (pc + 3) L S (wd_w o q.1 q.2 x) cc cs F) : AW ad M pc L (.int x :: .ref (ad t j i) :: S) o cc cs F := fun h W => by
  obtain ⟨r, h1, h2, h3, h4, h5⟩ := hl
  exact mw_puti h1 h2 h3 ((W.2.1 t j i hv).trans ht) (Or.inl h4) h5 hf d (kk _ (wd_put W hv hi x))
theorem aw_putz {t j i k ci idx : Nat} {q : Nat × Nat} {x : Int32} (hx : x = 0 ∨ x = 1) (hv : wd_v t j i) (hi : wd_i t j i k = some q) (hl : flw (mm_my M).cls idx ci k .boolean) (ht : wd_k t = ci + 1) (hf : mm_ft ci k = 3) (d : decode (mm_mc M) pc = .ok (.putfield idx, 3)) (kk : AW ad M (pc + 3) L S (wd_w o q.1 q.2 x) cc cs F) : AW ad M pc L (.int x :: .ref (ad t j i) :: S) o cc cs F := fun h W => by
  obtain ⟨r, h1, h2, h3, h4, h5⟩ := hl
  exact mw_putz hx h1 h2 h3 ((W.2.1 t j i hv).trans ht) (Or.inl h4) h5 hf d (kk _ (wd_put W hv hi x))
theorem aw_putl {idx : Nat} {x : Int64} (hl : flw (mm_my M).cls idx 7 6 .long) (d : decode (mm_mc M) pc = .ok (.putfield idx, 3)) (kk : AW ad M (pc + 3) L S (wd_j o 0 x) cc cs F) : AW ad M pc L (.long x :: .ref (ad 14 0 0) :: S) o cc cs F := fun h W => by
  obtain ⟨r, h1, h2, h3, h4, h5⟩ := hl
  exact mw_putl h1 h2 h3 (W.2.1 14 0 0 (by simp [wd_v])) (Or.inl h4) h5 rfl d (kk _ (wd_putj W x).1)
theorem wd_n_lt (t i : Nat) : wd_n t i < 2 ^ 31 := by
  unfold wd_n
  split
  · rcases i with _ | _ | _ | _ | i <;> simp
  · rcases t with _ | _ | _ | _ | _ | _ | _ | _ | _ | _ | _ | _ | _ | _ | _ | _ | _ | t <;> simp
theorem aw_ild {t j i x : Nat} {q : Nat × Nat} {n y : Int32} (hn : n = nI x) (hv : wd_v t j i) (hi : wd_i t j i x = some q) (hy : o.1 q.1 q.2 = y) (hx : x < wd_n t i) (ht : wd_k t = 9) (d : decode (mm_mc M) pc = .ok (.iaload, 1)) (kk : AW ad M (pc + 1) L (.int y :: S) o cc cs F) : AW ad M pc L (.int n :: .ref (ad t j i) :: S) o cc cs F := fun h W => by
  subst hn
  have hl := W.2.2.1 t j i hv (by omega)
  refine mw_iald ((W.2.1 t j i hv).trans ht) (by rw [hl]; exact nI_in hx (wd_n_lt t i)) ?_ d (kk h W)
  rw [nI_clamp (Nat.lt_trans hx (wd_n_lt t i)), ← hy]
  exact W.2.2.2.2.1 t j i x q hv hi
theorem aw_ist {t j i x : Nat} {q : Nat × Nat} {n y : Int32} (hn : n = nI x) (hv : wd_v t j i) (hi : wd_i t j i x = some q) (hx : x < wd_n t i) (ht : wd_k t = 9) (d : decode (mm_mc M) pc = .ok (.iastore, 1)) (kk : AW ad M (pc + 1) L S (wd_w o q.1 q.2 y) cc cs F) : AW ad M pc L (.int y :: .int n :: .ref (ad t j i) :: S) o cc cs F := fun h W => by
  subst hn
  have hl := W.2.2.1 t j i hv (by omega)
  refine mw_iast ((W.2.1 t j i hv).trans ht) (by rw [hl]; exact nI_in hx (wd_n_lt t i)) d (kk _ ?_)
  rw [nI_clamp (Nat.lt_trans hx (wd_n_lt t i))]
  exact wd_put W hv hi y
theorem aw_ald {t j i x ty : Nat} {q : Nat × Nat × Nat} {n : Int32} (hn : n = nI x) (hv : wd_v t j i) (hi : wd_r o.2.1 t j i x = some q) (hx : x < wd_n t i) (ht : wd_k t = ty + 9) (h2 : 2 ≤ ty) (h6 : ty < 6) (d : decode (mm_mc M) pc = .ok (.aaload, 1)) (kk : AW ad M (pc + 1) L (.ref (ad q.1 q.2.1 q.2.2) :: S) o cc cs F) : AW ad M pc L (.int n :: .ref (ad t j i) :: S) o cc cs F := fun h W => by
  subst hn
  have hl := W.2.2.1 t j i hv (by omega)
  refine mw_aald (ty := ty) ((W.2.1 t j i hv).trans ht) h2 h6 (by rw [hl]; exact nI_in hx (wd_n_lt t i)) ?_ d (kk h W)
  rw [nI_clamp (Nat.lt_trans hx (wd_n_lt t i)), W.2.2.2.1 t j i x q hv hi]
  rfl
/-- History's row takes a state -/
theorem aw_ast {x j : Nat} {n : Int32} (hn : n = nI x) (hx : x < 4) (hj : 1 ≤ j ∧ j < 5) (d : decode (mm_mc M) pc = .ok (.aastore, 1)) (kk : AW ad M (pc + 1) L S (wd_pi o (fun y => if y = x then j else o.2.1 y)) cc cs F) : AW ad M pc L (.ref (ad 0 j 0) :: .int n :: .ref (ad 10 0 0) :: S) o cc cs F := fun h W => by
  subst hn
  have v10 : wd_v 10 0 0 := by simp [wd_v]
  have v0 : wd_v 0 j 0 := by simp [wd_v, hj.2]
  have hl := W.2.2.1 10 0 0 v10 (by decide)
  refine mw_aast (ty := 4) (ci := 4) (r := (RX5, TX5, 6)) (W.2.1 10 0 0 v10) (by decide) (by decide) (by rw [hl]; exact nI_in hx (by decide)) rfl (by decide) rfl (W.2.1 0 j 0 v0) d (kk _ ?_)
  rw [nI_clamp (by omega)]
  exact wd_putp W hx hj
theorem aw_alen {t j i ty : Nat} {v : Int32} (hv : wd_v t j i) (ht : wd_k t = ty + 9) (h6 : ty < 6) (hn : nI (wd_n t i) = v) (d : decode (mm_mc M) pc = .ok (.arraylength, 1)) (kk : AW ad M (pc + 1) L (.int v :: S) o cc cs F) : AW ad M pc L (.ref (ad t j i) :: S) o cc cs F := fun h W =>
  mw_alen (ty := ty) ((W.2.1 t j i hv).trans ht) h6 (by rw [W.2.2.1 t j i hv (by omega)]; exact hn) d (kk h W)
theorem aw_lld {n : Int32} (hn : n = 0) (d : decode (mm_mc M) pc = .ok (.laload, 1)) (kk : AW ad M (pc + 1) L (.long (o.2.2 1) :: S) o cc cs F) : AW ad M pc L (.int n :: .ref (ad 16 0 0) :: S) o cc cs F := fun h W => by
  subst hn
  have v16 : wd_v 16 0 0 := by simp [wd_v]
  have hl := W.2.2.1 16 0 0 v16 (by decide)
  refine mw_lald (W.2.1 16 0 0 v16) (by rw [hl]; exact nI_in (c := 0) (by decide) (by decide)) ?_ d (kk h W)
  exact W.2.2.2.2.2.2.1.2
theorem aw_lst {n : Int32} {x : Int64} (hn : n = 0) (d : decode (mm_mc M) pc = .ok (.lastore, 1)) (kk : AW ad M (pc + 1) L S (wd_j o 1 x) cc cs F) : AW ad M pc L (.long x :: .int n :: .ref (ad 16 0 0) :: S) o cc cs F := fun h W => by
  subst hn
  have v16 : wd_v 16 0 0 := by simp [wd_v]
  have hl := W.2.2.1 16 0 0 v16 (by decide)
  exact mw_last (W.2.1 16 0 0 v16) (by rw [hl]; exact nI_in (c := 0) (by decide) (by decide)) d (kk _ (wd_putj W x).2)
theorem aw_throw {ik is ic : Nat} {cls text : String} (hx : mm_thr RX7 ik ic cls) (hown : (mm_my M).cls = RX7) (hstr : (is, text) ∈ mm_str) (hh : mm_mh M = []) (d0 : decode (mm_mc M) pc = .ok (.new ik, 3)) (d3 : decode (mm_mc M) (pc + 3) = .ok (.dup, 1)) (d4 : decode (mm_mc M) (pc + 4) = .ok (.ldc is, 2)) (d6 : decode (mm_mc M) (pc + 6) = .ok (.invokespecial ic, 3)) (d9 : decode (mm_mc M) (pc + 9) = .ok (.athrow, 1)) (hfr : 5 < (mm_mo M).frames) (hlo : (S.map fun v => v.category).sum + 82 ≤ (mm_mo M).locals) (hc : cc + 1 ≤ (mm_mo M).cells) (hs : cs + 6 ≤ (mm_mo M).slots) (hp : F (.inr cls) o) : AW ad M pc L S o cc cs F := fun h W => mw_throw hx hown hstr hh d0 d3 d4 d6 d9 hfr hlo hc hs ⟨o, W, hp⟩
theorem aw_throwW {ik is ic : Nat} {cls text : String} (hx : mm_thr RX7 ik ic cls) (hown : (mm_my M).cls = RX7) (hstr : (is, text) ∈ mm_str) (hh : mm_mh M = []) (d0 : decode (mm_mc M) pc = .ok (.new ik, 3)) (d3 : decode (mm_mc M) (pc + 3) = .ok (.dup, 1)) (d4 : decode (mm_mc M) (pc + 4) = .ok (.ldc_w is, 3)) (d6 : decode (mm_mc M) (pc + 7) = .ok (.invokespecial ic, 3)) (d9 : decode (mm_mc M) (pc + 10) = .ok (.athrow, 1)) (hfr : 5 < (mm_mo M).frames) (hlo : (S.map fun v => v.category).sum + 82 ≤ (mm_mo M).locals) (hc : cc + 1 ≤ (mm_mo M).cells) (hs : cs + 6 ≤ (mm_mo M).slots) (hp : F (.inr cls) o) : AW ad M pc L S o cc cs F := fun h W => mw_throwW hx hown hstr hh d0 d3 d4 d6 d9 hfr hlo hc hs ⟨o, W, hp⟩
theorem ax_out {E : String} (hh : mm_mh M = []) (hc : cc ≤ (mm_mo M).cells) (hs : cs ≤ (mm_mo M).slots) (hp : F (.inr E) o) : AX ad M pc L o cc cs F E := fun h W => mx_out hh hc hs ⟨o, W, hp⟩
theorem ax_catch {E name : String} (pre : List (Nat × Nat × Nat × Nat)) (x : Nat × Nat × Nat × Nat) (suf : List (Nat × Nat × Nat × Nat)) (hsp : mm_mh M = pre ++ x :: suf) (hpass : ∀ z ∈ pre, z.2.2.2 ≠ 0 ∧ ∃ nm : String, Cond.classLink (mm_my M).cls z.2.2.2 nm ∈ mm_B ∧ (E, nm) ∈ mm_nc) (hx : covers ⟨x.1, x.2.1, x.2.2.1, x.2.2.2⟩ pc = true) (h0 : x.2.2.2 ≠ 0) (hlink : Cond.classLink (mm_my M).cls x.2.2.2 name ∈ mm_B) (hcast : Cond.castable E name ∈ mm_nw) (k : ∀ q : Nat, AW ad M x.2.2.1 L [.ref q] o cc cs F) : AX ad M pc L o cc cs F E := fun h W => mx_catch pre x suf hsp hpass hx h0 hlink hcast (fun q => k q h W)
/-- a call on an object, its two ends -/
theorem aw_cV {M2 : mm_M} {G : (Option Value ⊕ String) → wd_S → Prop} {t j i ci idx n : Nat} {As st : List Value} (hG : CT ad M2 (.ref (ad t j i) :: As) o G) (hf : mm_fit M M2 n) (hl : Cond.methodLink (mm_my M).cls idx (mm_my M2) ∈ mm_B) (ho : cvo M2 ci) (hv : wd_v t j i) (ht : wd_k t = ci + 1) (hn : As.length = n) (hst : As.reverse ++ .ref (ad t j i) :: S = st) (hcat : (S.map fun v => v.category).sum ≤ 8) (hcc : cc + (mm_mo M2).cells ≤ (mm_mo M).cells) (hcs : cs + (mm_mo M2).slots ≤ (mm_mo M).slots) (d : decode (mm_mc M) pc = .ok (.invokevirtual idx, 3))
    (kr : ∀ (v : Option Value) (o2 : wd_S), G (.inl v) o2 → AW ad M (pc + 3) L (v.toList ++ S) o2 (cc + (mm_mo M2).cells) (cs + (mm_mo M2).slots) F) (kx : ∀ (E : String) (o2 : wd_S), G (.inr E) o2 → AX ad M pc L o2 (cc + (mm_mo M2).cells) (cs + (mm_mo M2).slots) F E) : AW ad M pc L st o cc cs F := fun h W => by
  obtain ⟨c1, c2, c3, r, c4, c5⟩ := ho
  refine mw_invV hf hl c1 c2 c4 c3 c5 ((W.2.1 t j i hv).trans ht) hn hst hcat d hcc hcs (hG h W) (fun v h2 q => ?_) (fun E h2 q => ?_)
  · obtain ⟨o2, q1, q2⟩ := q
    exact kr v o2 q2 h2 q1
  · obtain ⟨o2, q1, q2⟩ := q
    exact kx E o2 q2 h2 q1
theorem aw_cS {M2 : mm_M} {G : (Option Value ⊕ String) → wd_S → Prop} {idx n : Nat} {As st : List Value} (hG : CT ad M2 As o G) (hf : mm_fit M M2 n) (hl : Cond.methodLink (mm_my M).cls idx (mm_my M2) ∈ mm_B) (ho : Cond.static (mm_my M2) ∈ mm_B) (hn : As.length = n) (hst : As.reverse ++ S = st) (hcat : (S.map fun v => v.category).sum ≤ 8) (hcc : cc + (mm_mo M2).cells ≤ (mm_mo M).cells) (hcs : cs + (mm_mo M2).slots ≤ (mm_mo M).slots) (d : decode (mm_mc M) pc = .ok (.invokestatic idx, 3))
    (kr : ∀ (v : Option Value) (o2 : wd_S), G (.inl v) o2 → AW ad M (pc + 3) L (v.toList ++ S) o2 (cc + (mm_mo M2).cells) (cs + (mm_mo M2).slots) F) (kx : ∀ (E : String) (o2 : wd_S), G (.inr E) o2 → AX ad M pc L o2 (cc + (mm_mo M2).cells) (cs + (mm_mo M2).slots) F E) : AW ad M pc L st o cc cs F := fun h W => by
  refine mw_invS hf hl ho hn hst hcat d hcc hcs (hG h W) (fun v h2 q => ?_) (fun E h2 q => ?_)
  · obtain ⟨o2, q1, q2⟩ := q
    exact kr v o2 q2 h2 q1
  · obtain ⟨o2, q1, q2⟩ := q
    exact kx E o2 q2 h2 q1
theorem aw_cSH {M2 : mm_M} {G : (Option Value ⊕ String) → wd_S → Prop} {idx n : Nat} {As st : List Value} (hG : CT ad M2 As o G) (hf : mm_fitH M M2 n) (hl : Cond.methodLink (mm_my M).cls idx (mm_my M2) ∈ mm_B) (ho : Cond.static (mm_my M2) ∈ mm_B) (hn : As.length = n) (hst : As.reverse ++ S = st) (hcat : (S.map fun v => v.category).sum ≤ 8) (hcc : cc + (mm_mo M2).cells ≤ (mm_mo M).cells) (hcs : cs + (mm_mo M2).slots ≤ (mm_mo M).slots) (d : decode (mm_mc M) pc = .ok (.invokestatic idx, 3))
    (kr : ∀ (v : Option Value) (o2 : wd_S), G (.inl v) o2 → AW ad M (pc + 3) L (v.toList ++ S) o2 (cc + (mm_mo M2).cells) (cs + (mm_mo M2).slots) F) (kx : ∀ (E : String) (o2 : wd_S), G (.inr E) o2 → AX ad M pc L o2 (cc + (mm_mo M2).cells) (cs + (mm_mo M2).slots) F E) : AW ad M pc L st o cc cs F := fun h W => by
  refine mw_invSH hf hl ho hn hst hcat d hcc hcs (hG h W) (fun v h2 q => ?_) (fun E h2 q => ?_)
  · obtain ⟨o2, q1, q2⟩ := q
    exact kr v o2 q2 h2 q1
  · obtain ⟨o2, q1, q2⟩ := q
    exact kx E o2 q2 h2 q1
/-- a call that returns v and leaves o2 -/
theorem aw_rV {M2 : mm_M} {v : Option Value} {o2 : wd_S} {t j i ci idx n : Nat} {As st st2 : List Value} (hG : CT ad M2 (.ref (ad t j i) :: As) o (RT v o2)) (hf : mm_fit M M2 n) (hl : Cond.methodLink (mm_my M).cls idx (mm_my M2) ∈ mm_B) (ho : cvo M2 ci) (hv : wd_v t j i) (ht : wd_k t = ci + 1) (hn : As.length = n) (hst : As.reverse ++ .ref (ad t j i) :: S = st) (hcat : (S.map fun v => v.category).sum ≤ 8) (hcc : cc + (mm_mo M2).cells ≤ (mm_mo M).cells) (hcs : cs + (mm_mo M2).slots ≤ (mm_mo M).slots) (hs2 : v.toList ++ S = st2) (d : decode (mm_mc M) pc = .ok (.invokevirtual idx, 3))
    (k : AW ad M (pc + 3) L st2 o2 (cc + (mm_mo M2).cells) (cs + (mm_mo M2).slots) F) : AW ad M pc L st o cc cs F :=
  aw_cV hG hf hl ho hv ht hn hst hcat hcc hcs d (fun v2 o3 q => by obtain ⟨q1, q2⟩ := q; cases q1; rw [q2, hs2]; exact k) (fun E o3 q => by obtain ⟨q1, q2⟩ := q; cases q1)
theorem aw_rS {M2 : mm_M} {v : Option Value} {o2 : wd_S} {idx n : Nat} {As st st2 : List Value} (hG : CT ad M2 As o (RT v o2)) (hf : mm_fit M M2 n) (hl : Cond.methodLink (mm_my M).cls idx (mm_my M2) ∈ mm_B) (ho : Cond.static (mm_my M2) ∈ mm_B) (hn : As.length = n) (hst : As.reverse ++ S = st) (hcat : (S.map fun v => v.category).sum ≤ 8) (hcc : cc + (mm_mo M2).cells ≤ (mm_mo M).cells) (hcs : cs + (mm_mo M2).slots ≤ (mm_mo M).slots) (hs2 : v.toList ++ S = st2) (d : decode (mm_mc M) pc = .ok (.invokestatic idx, 3))
    (k : AW ad M (pc + 3) L st2 o2 (cc + (mm_mo M2).cells) (cs + (mm_mo M2).slots) F) : AW ad M pc L st o cc cs F :=
  aw_cS hG hf hl ho hn hst hcat hcc hcs d (fun v2 o3 q => by obtain ⟨q1, q2⟩ := q; cases q1; rw [q2, hs2]; exact k) (fun E o3 q => by obtain ⟨q1, q2⟩ := q; cases q1)
theorem aw_blen {idx : Nat} (hl : Cond.fieldLink (mm_my M).cls idx RX0 "BY_LENGTH" "[I" ∈ mm_B) (d : decode (mm_mc M) pc = .ok (.getstatic idx, 3)) (d2 : decode (mm_mc M) (pc + 3) = .ok (.arraylength, 1)) (k : AW ad M (pc + 4) L (.int 14 :: S) o cc cs F) : AW ad M pc L S o cc cs F := fun h W => mw_blen hl d d2 (k h W)
theorem aw_bld {idx : Nat} {i : Fin 4} {x v : Int32} (hl : Cond.fieldLink (mm_my M).cls idx RX0 "BY_LENGTH" "[I" ∈ mm_B) (d : decode (mm_mc M) pc = .ok (.getstatic idx, 3)) (d2 : decode (mm_mc M) (pc + 3) = .ok (.iload_n i, 1)) (hx : L[(i : Nat)]? = some (some (.int x))) (d3 : decode (mm_mc M) (pc + 4) = .ok (.iaload, 1)) (hin : vp_in x 14) (hv : mm_bl x.toNatClampNeg = v) (k : AW ad M (pc + 5) L (.int v :: S) o cc cs F) : AW ad M pc L S o cc cs F := fun h W => mw_bld hl d d2 hx d3 hin hv (k h W)
theorem aw_slen {b n : Nat} {xs : Nat → Int32} (hsc : mm_ms M = some (b, n, xs)) (d : decode (mm_mc M) pc = .ok (.arraylength, 1)) (k : AW ad M (pc + 1) L (.int (Int32.ofNat n) :: S) o cc cs F) : AW ad M pc L (.ref b :: S) o cc cs F := fun h W => mw_slen hsc d (k h W)
theorem aw_sld {b n : Nat} {xs : Nat → Int32} {x v : Int32} (hsc : mm_ms M = some (b, n, xs)) (hin : vp_in x n) (hv : xs x.toNatClampNeg = v) (d : decode (mm_mc M) pc = .ok (.iaload, 1)) (k : AW ad M (pc + 1) L (.int v :: S) o cc cs F) : AW ad M pc L (.int x :: .ref b :: S) o cc cs F := fun h W => mw_sld hsc hin hv d (k h W)
end AWs

