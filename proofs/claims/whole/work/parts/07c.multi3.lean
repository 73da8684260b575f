section
variable {p : Program} {l : Launch} {e : Env} {R : Room} {s : State} {m : MethodId} {args : Array Value} {below : List Frame} {meth : Method} {c : Code} {T : State} {locs : List Loc} {cc cs : Nat}
theorem ml_step (X : Stand p l e R s m args below meth c T locs cc cs) (hexec : p.tables.exec = Jvm.exec) {own : String} {idx : Nat} (hown : s.vm.findClass own = some m.cls) (hlink : (Cond.classLink own idx "[[I").before args s = true) {a0 : Array Value} (hover : (Cond.arrayOver (.array .int)).before a0 s = true) (harr : (Cond.arrayClass .int).before args s = true) {g : JFrame} (hg : g.method = m) (hdg : decode c.code g.pc = .ok (.multianewarray idx 2, 4)) {n k2 : Int32} {rest : List Value} (hstack : g.stack = .int k2 :: .int n :: rest) (hn : ¬ n < 0) (hk : ¬ k2 < 0) (hb1 : n.toNatClampNeg * 4 ≤ 536870912) (hb2 : k2.toNatClampNeg * 4 ≤ 536870912) (hcells : cc + (1 + n.toNatClampNeg) ≤ R.cells) (hslots : cs + (n.toNatClampNeg + n.toNatClampNeg * k2.toNatClampNeg) ≤ R.slots) :
    ∃ (vm₁ : Vm) (cA cI : ClassId), s.vm.findClass "[[I" = some cA ∧ s.vm.findClass "[I" = some cI ∧ Stand p l e R s m args below meth c (ml_U (T.setVm vm₁) cA cI n.toNatClampNeg k2.toNatClampNeg n.toNatClampNeg) locs (cc + (1 + n.toNatClampNeg)) (cs + (n.toNatClampNeg + n.toNatClampNeg * k2.toNatClampNeg)) ∧
      ∀ target, Steps p.tables e below ((ml_U (T.setVm vm₁) cA cI n.toNatClampNeg k2.toNatClampNeg n.toNatClampNeg).setTop { g with pc := g.pc + 4, stack := .ref T.heap.size :: rest }) target → Steps p.tables e below (T.setTop g) target := by
  subst hg
  have hpl : e.platform.magicAccessors = ({} : Platform).magicAccessors := by rw [X.admits.platform]
  obtain ⟨cA, hA, hcl⟩ := Cond.classLink_spec hown hlink e.platform hpl
  obtain ⟨cI, cA2, kA, hcI, -, hkA, hkindA, hnA⟩ := arrayOverA_spec hover
  obtain ⟨cI2, kI, co, hI, hkI, hkindI⟩ := Cond.arrayClass_spec harr
  have eA : cA2 = cA := Option.some.inj (hnA.symm.trans hA)
  have eI : cI2 = cI := Option.some.inj (hI.symm.trans hcI)
  subst eA
  subst eI
  obtain ⟨hg₁, hwarm₁, hready₁⟩ := State.classEntry (e := e) X.warmed hcl
  generalize hvm : T.vm.noted g.method.cls idx (.cls cA2) = vm₁ at hg₁ hwarm₁ hready₁
  have hal : s.vm.Alike vm₁ := hwarm₁.alike
  obtain ⟨kA₁, hkA₁, heA⟩ := hal.2.2 _ _ hkA
  obtain ⟨kI₁, hkI₁, heI⟩ := hal.2.2 _ _ hkI
  have hkA2 : kA₁.kind = .array cI2 (.array .int) := by rw [heA]; exact hkindA
  have hkI2 : kI₁.kind = .array co .int := by rw [heI]; exact hkindI
  have X₁ := X.noted hwarm₁
  refine ⟨vm₁, cA2, cI2, hA, hI, ml_stand X₁ _, fun target hrest => ?_⟩
  refine Steps.instr (c := _) (by simpa using X.here) ?_
  simp [jvm, wpRun, exec, X.here.top, hexec, hdg]
  have hsz : vm₁.classes.size ≤ T.vm.classes.size := by rw [← hvm]; simp
  have htop : (T.setVm vm₁).topJava?.isSome := X.here.top
  simp only [multianewarray.sem, wp_bind']
  refine (Jvm.W.resolveClassAt_transfer (s := T.setTop g) (State.method?_setTop g X.here.top) hg₁ hready₁ hsz).mpr ?_
  refine (Jvm.W.resolveClassAt_ready (s := (T.setVm vm₁).setTop g) (State.method?_setTop g htop) hready₁).mpr ?_
  simp [Jvm.popN, State.topJava?_setTop' _ htop, hstack]
  obtain ⟨r1, r2⟩ := X.roomAbove hcells hslots
  have htop2 : (ml_U (T.setVm vm₁) cA2 cI2 n.toNatClampNeg k2.toNatClampNeg n.toNatClampNeg).topJava?.isSome := by rw [ml_top]; exact htop
  refine ml_make (T := T.setVm vm₁) hkA₁ hkA2 hkI₁ hkI2 hn hk (by rw [Launch.admits_arrayLengthLimit X.admits]; omega) (by rw [Launch.admits_maxHeapBytes X.admits]; show ¬ n.toNatClampNeg * 4 > 536870912; omega) (by rw [Launch.admits_arrayLengthLimit X.admits]; omega) (by rw [Launch.admits_maxHeapBytes X.admits]; show ¬ k2.toNatClampNeg * 4 > 536870912; omega) r1 (fun i hi => ?_) (by show T.slotsUsed + _ ≤ _; omega) (fun d' acts' => ?_)
  · have e9 : i * k2.toNatClampNeg + (n.toNatClampNeg - i) * k2.toNatClampNeg = n.toNatClampNeg * k2.toNatClampNeg := by rw [← Nat.add_mul]; congr 1; omega
    exact ((ml_stand (cA := cA2) (cI := cI2) (N := n.toNatClampNeg) (K := k2.toNatClampNeg) X₁ i).roomAbove (a := 0) (b := (n.toNatClampNeg - i) * k2.toNatClampNeg) (by omega) (by omega)).2
  · simp [State.topJava?_setTop' _ htop2, jvm]
    exact hrest
end
