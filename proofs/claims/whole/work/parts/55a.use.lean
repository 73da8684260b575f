/-! the class's row may hold anything in the cells that are not in use -/
section
variable {B N B2 N2 : Nat → Int32} {n m : Nat}
theorem Iv_use (I : Iv B N n m) (Z2 : bz B2) (hB : ∀ x, uz n m x → B2 x = B x) (hN : ∀ x, x < 237 → N2 x = N x) : Iv B2 N2 n m := by
  obtain ⟨G, Z, A, L, R, zz, dd⟩ := I
  have hn := G.2.1
  have hm := G.2.2.2.1
  have hl : ∀ l k, l < n → 1 ≤ k → k ≤ 20 → B2 (20 * l + k) = B (20 * l + k) := fun l k h1 h2 h3 => hB _ (by unfold uz; omega)
  have hs : ∀ s k, s < m → 1 ≤ k → k ≤ 8 → B2 (101 + 8 * s + k) = B (101 + 8 * s + k) := fun s k h1 h2 h3 => hB _ (by unfold uz; omega)
  have cM : ∀ l s, mem B2 m l s ↔ mem B m l s := fun l s => by
    unfold mem
    constructor
    · rintro ⟨a, b⟩; exact ⟨a, by rw [← hs s 1 a (by decide) (by decide)]; exact b⟩
    · rintro ⟨a, b⟩; exact ⟨a, by rw [hs s 1 a (by decide) (by decide)]; exact b⟩
  have cC : ∀ l s, l < n → s < m → cs_cuts B2 l s = cs_cuts B l s := fun l s h1 h2 => by
    unfold cs_cuts cs_flt
    rw [hl l 7 h1 (by decide) (by decide), hl l 8 h1 (by decide) (by decide), hs s 2 h2 (by decide) (by decide)]
  have cO : ∀ l, l < n → cs_on B2 m l = cs_on B m l := fun l h1 => by
    funext s
    rw [Bool.eq_iff_iff, on_iff, on_iff, cM]
    constructor
    · rintro ⟨a, b, c⟩; rw [hs s 6 a.1 (by decide) (by decide)] at b; rw [cC l s h1 a.1] at c; exact ⟨a, b, c⟩
    · rintro ⟨a, b, c⟩; exact ⟨a, by rw [hs s 6 a.1 (by decide) (by decide)]; exact b, by rw [cC l s h1 a.1]; exact c⟩
  have cI : ∀ l, l < n → cs_in B2 m l = cs_in B m l := fun l h1 => by
    funext s
    rw [Bool.eq_iff_iff, in_iff, in_iff, cM]
    constructor
    · rintro ⟨a, c⟩; rw [cC l s h1 a.1] at c; exact ⟨a, c⟩
    · rintro ⟨a, c⟩; exact ⟨a, by rw [cC l s h1 a.1]; exact c⟩
  refine ⟨⟨(hB 0 (by unfold uz; omega)).trans G.1, hn, (hB 101 (by unfold uz; omega)).trans G.2.2.1, hm, fun s q => ?_, fun s q => ?_⟩, Z2, fun x hx => ?_, fun l h1 _ => ?_, fun l h1 _ => ?_, fun l a b => ?_, fun s t a b c d => ?_⟩
  · rw [hs s 1 q (by decide) (by decide)]; exact G.2.2.2.2.1 s q
  · rw [hs s 3 q (by decide) (by decide)]; exact G.2.2.2.2.2 s q
  · rw [hB x (by unfold us at hx; unfold uz; omega), hN x (by unfold us at hx; omega)]; exact A x hx
  · exact lpc_fr (L l h1 trivial) (hl l 1 h1 (by decide) (by decide)) (hl l 3 h1 (by decide) (by decide)) (hl l 4 h1 (by decide) (by decide)) (hl l 5 h1 (by decide) (by decide)) (hl l 6 h1 (by decide) (by decide)) (cO l h1) (cI l h1) (fun e he _ _ _ => ⟨hl e 1 he (by decide) (by decide), hl e 5 he (by decide) (by decide)⟩)
  · refine rlo_fr (R l h1 trivial) (fun s => cM l s) (fun s => by rw [cO l h1]) (fun s _ => ?_) (fun s q => hs s 7 q.1 (by decide) (by decide)) (fun s q => hN _ (by have := (on_iff.1 q).1.1; omega))
    unfold pty; rw [hl l 1 h1 (by decide) (by decide), hl l 3 h1 (by decide) (by decide), hl l 4 h1 (by decide) (by decide)]
  · rw [hN _ (by omega), hN _ (by omega), hN _ (by omega), hN _ (by omega)]; exact zz l a b
  · rw [hs s 1 a (by decide) (by decide), hs t 1 b (by decide) (by decide)] at d
    rw [hs s 3 a (by decide) (by decide), hs t 3 b (by decide) (by decide)]
    exact dd s t a b c d
theorem Iv_cpr {A : Nat → Int32} (I : Iv B N n m) (Z : bz A) (hN : ∀ x, x < 237 → N2 x = N x) : Iv (cpr A B) N2 n m := by
  rw [cpr_eq A I.1.1 I.1.2.2.1 I.1.2.1 I.1.2.2.2.1]
  exact Iv_use I (bz_cpn _ _ Z I.2.1) (fun x hx => cpn_in _ _ hx) hN
end
