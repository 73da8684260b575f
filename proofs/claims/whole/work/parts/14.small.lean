/-! rows of the world as functions; small words for the walks -/
def wd_row (o : wd_S) (r : Nat) (B : Nat → Int32) : wd_S := (fun r2 => if r2 = r then B else o.1 r2, o.2.1, o.2.2)
theorem wd_w_row (o : wd_S) (r x : Nat) (v : Int32) : wd_w o r x v = wd_row o r (upd (o.1 r) x v) := by
  unfold wd_w wd_row
  refine Prod.ext (funext fun r2 => funext fun x2 => ?_) rfl
  by_cases h : r2 = r
  · subst h
    by_cases hx : x2 = x <;> simp [upd, hx]
  · simp [h]
theorem row_self (o : wd_S) (r : Nat) (B : Nat → Int32) : (wd_row o r B).1 r = B := by simp [wd_row]
theorem row_ne (o : wd_S) {r r2 : Nat} (B : Nat → Int32) (h : r2 ≠ r) : (wd_row o r B).1 r2 = o.1 r2 := by simp [wd_row, h]
theorem row_row (o : wd_S) (r : Nat) (B C : Nat → Int32) : wd_row (wd_row o r B) r C = wd_row o r C := by
  unfold wd_row
  refine Prod.ext (funext fun r2 => ?_) rfl
  by_cases h : r2 = r <;> simp [h]
theorem row_id (o : wd_S) (r : Nat) : wd_row o r (o.1 r) = o := by
  unfold wd_row
  refine Prod.ext (funext fun r2 => ?_) rfl
  by_cases h : r2 = r <;> simp [h]
theorem row_pi (o : wd_S) (r : Nat) (B : Nat → Int32) : (wd_row o r B).2.1 = o.2.1 := rfl
theorem row_j (o : wd_S) (r : Nat) (B : Nat → Int32) : (wd_row o r B).2.2 = o.2.2 := rfl
theorem row_comm (o : wd_S) {r q : Nat} (h : r ≠ q) (B C : Nat → Int32) : wd_row (wd_row o r B) q C = wd_row (wd_row o q C) r B := by
  unfold wd_row
  refine Prod.ext (funext fun r2 => ?_) rfl
  by_cases h1 : r2 = r
  · subst h1; simp [h]
  · by_cases h2 : r2 = q
    · subst h2; simp [h1]
    · simp [h1, h2]
theorem upd_self (f : Nat → Int32) (k : Nat) (v : Int32) : upd f k v k = v := by simp [upd]
theorem upd_ne (f : Nat → Int32) {k x : Nat} (v : Int32) (h : x ≠ k) : upd f k v x = f x := by simp [upd, h]
theorem upd_at (f : Nat → Int32) (k : Nat) (v : Int32) (x : Nat) : upd f k v x = if x = k then v else f x := rfl
theorem wv0 {j : Nat} (hj : j < 5) : wd_v 0 j 0 := Or.inl ⟨rfl, hj, rfl⟩
theorem wv1 {j i : Nat} (hj : j < 5) (hi : i < 5) : wd_v 1 j i := Or.inr (Or.inl ⟨rfl, hj, hi⟩)
theorem wv2 {j i : Nat} (hj : j < 5) (hi : i < 5) : wd_v 2 j i := Or.inr (Or.inr (Or.inl ⟨rfl, hj, hi⟩))
theorem wv3 {j i : Nat} (hj : j < 5) (hi : i < 16) : wd_v 3 j i := Or.inr (Or.inr (Or.inr (Or.inl ⟨rfl, hj, hi⟩)))
theorem wv4 {j : Nat} (hj : j < 5) : wd_v 4 j 0 := by simp [wd_v, hj]
theorem wv5 {j : Nat} (hj : j < 5) : wd_v 5 j 0 := by simp [wd_v, hj]
theorem wv6 {j : Nat} (hj : j < 5) : wd_v 6 j 0 := by simp [wd_v, hj]
theorem wv7 : wd_v 7 0 0 := by simp [wd_v]
theorem wv8 : wd_v 8 0 0 := by simp [wd_v]
theorem wv9 : wd_v 9 0 0 := by simp [wd_v]
theorem wv10 : wd_v 10 0 0 := by simp [wd_v]
theorem wv11 : wd_v 11 0 0 := by simp [wd_v]
theorem wv12 {i : Nat} (hi : i < 2) : wd_v 12 0 i := by simp [wd_v, hi]
theorem wv13 {j i : Nat} (hj : j < 2) (hi : i < 13) : wd_v 13 j i := by simp [wd_v, hj, hi]
theorem wv14 : wd_v 14 0 0 := by simp [wd_v]
theorem wv15 {i : Nat} (hi : i < 4) : wd_v 15 0 i := by simp [wd_v, hi]
theorem wv16 : wd_v 16 0 0 := by simp [wd_v]
theorem wi1 {j i k : Nat} (h : 1 ≤ k ∧ k ≤ 8) : wd_i 1 j i k = some (j, 20 * i + k) := by simp [wd_i, h]
theorem wi2 {j i k : Nat} (h : 1 ≤ k ∧ k ≤ 12) : wd_i 2 j i k = some (j, 20 * i + 8 + k) := by simp [wd_i, h]
theorem wi3 {j i k : Nat} (h : 1 ≤ k ∧ k ≤ 8) : wd_i 3 j i k = some (j, 101 + 8 * i + k) := by simp [wd_i, h]
theorem wi4 {j k : Nat} (h : k < 6) : wd_i 4 j 0 k = some (j, 231 + k) := by simp [wd_i, h]
theorem wi13 {j i k : Nat} (h : k < 13) : wd_i 13 j i k = some (6 + j, 13 * i + k) := by simp [wd_i, h]
theorem wi15 {i k : Nat} (h : k < wd_n 15 i) : wd_i 15 0 i k = some (8 + i, k) := by simp [wd_i, h]
theorem wr5 {pi : Nat → Nat} {j k : Nat} (h : k < 5) : wd_r pi 5 j 0 k = some (1, j, k) := by simp [wd_r, h]
theorem wr6 {pi : Nat → Nat} {j k : Nat} (h : k < 16) : wd_r pi 6 j 0 k = some (3, j, k) := by simp [wd_r, h]
theorem wr10 {pi : Nat → Nat} {k : Nat} (h : k < 4) : wd_r pi 10 0 0 k = some (0, pi k, 0) := by simp [wd_r, h]
theorem wr12 {pi : Nat → Nat} {i k : Nat} (h : k < 13) : wd_r pi 12 0 i k = some (13, i, k) := by simp [wd_r, h]
theorem i32_01 {p : Prop} [Decidable p] : (if p then (1 : Int32) else 0) = 0 ∨ (if p then (1 : Int32) else 0) = 1 := by
  by_cases h : p <;> simp [h]
theorem nI_mul (a b : Nat) : nI a * nI b = nI (a * b) := by
  unfold nI
  first | exact (Int32.ofNat_mul a b).symm | simp [Int32.ofNat_mul]
theorem nI_lit {n : Nat} {x : Int32} (h : Int32.ofNat n = x) : x = nI n := h.symm

section AWz
variable {ad : Nat → Nat → Nat → Nat} {M : mm_M} {pc : Nat} {L : List (Option Value)} {S : List Value} {o : wd_S} {cc cs : Nat} {F : (Option Value ⊕ String) → wd_S → Prop}
theorem aw_iaddz {x y z : Int32} (hz : x + y = z) (d : decode (mm_mc M) pc = .ok (.iadd, 1)) (k : AW ad M (pc + 1) L (.int z :: S) o cc cs F) : AW ad M pc L (.int y :: .int x :: S) o cc cs F := aw_iadd d (hz ▸ k)
theorem aw_isubz {x y z : Int32} (hz : x - y = z) (d : decode (mm_mc M) pc = .ok (.isub, 1)) (k : AW ad M (pc + 1) L (.int z :: S) o cc cs F) : AW ad M pc L (.int y :: .int x :: S) o cc cs F := aw_isub d (hz ▸ k)
theorem aw_imulz {x y z : Int32} (hz : x * y = z) (d : decode (mm_mc M) pc = .ok (.imul, 1)) (k : AW ad M (pc + 1) L (.int z :: S) o cc cs F) : AW ad M pc L (.int y :: .int x :: S) o cc cs F := aw_imul d (hz ▸ k)
theorem aw_iandz {x y z : Int32} (hz : x &&& y = z) (d : decode (mm_mc M) pc = .ok (.iand, 1)) (k : AW ad M (pc + 1) L (.int z :: S) o cc cs F) : AW ad M pc L (.int y :: .int x :: S) o cc cs F := aw_iand d (hz ▸ k)
theorem aw_iorz {x y z : Int32} (hz : x ||| y = z) (d : decode (mm_mc M) pc = .ok (.ior, 1)) (k : AW ad M (pc + 1) L (.int z :: S) o cc cs F) : AW ad M pc L (.int y :: .int x :: S) o cc cs F := aw_ior d (hz ▸ k)
theorem aw_ishrz {x y z : Int32} (hz : x >>> (y &&& 31) = z) (d : decode (mm_mc M) pc = .ok (.ishr, 1)) (k : AW ad M (pc + 1) L (.int z :: S) o cc cs F) : AW ad M pc L (.int y :: .int x :: S) o cc cs F := aw_ishr d (hz ▸ k)
theorem aw_idivz {x y z : Int32} (hne : ¬ y = 0) (hz : x / y = z) (d : decode (mm_mc M) pc = .ok (.idiv, 1)) (k : AW ad M (pc + 1) L (.int z :: S) o cc cs F) : AW ad M pc L (.int y :: .int x :: S) o cc cs F := aw_idiv hne d (hz ▸ k)
theorem aw_iremz {x y z : Int32} (hne : ¬ y = 0) (hz : x - x / y * y = z) (d : decode (mm_mc M) pc = .ok (.irem, 1)) (k : AW ad M (pc + 1) L (.int z :: S) o cc cs F) : AW ad M pc L (.int y :: .int x :: S) o cc cs F := aw_irem hne d (hz ▸ k)
end AWz
