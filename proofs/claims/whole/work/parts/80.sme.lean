/-! the places by distance, and by form -/
def dq (q : Int) : Int := px q * px q + py q * py q
def BDo (p : Nat → Int) (w : Nat) (m : Int) : Prop := (∀ i, i < w → (0 ≤ p i ∧ p i < 1681) ∧ dq (p i) ≤ m) ∧ (∀ i j, i < j → j < w → dq (p i) * 2048 + p i < dq (p j) * 2048 + p j) ∧ ∀ q, 0 ≤ q → q < 1681 → dq q ≤ m → ∃ i, i < w ∧ p i = q
theorem dq_nn (q : Int) : 0 ≤ dq q := by
  unfold dq
  have := sq_nn (px q)
  have := sq_nn (py q)
  omega
theorem BDo_cut {p : Nat → Int} {c w : Nat} {m n : Int} (h : BDo p c m) (hw : w ≤ c) (hn : n ≤ m) (h1 : ∀ i, i < w → dq (p i) ≤ n) (h2 : w = c ∨ n < dq (p w)) : BDo p w n := by
  obtain ⟨b1, b2, b3⟩ := h
  refine ⟨fun i hi => ⟨(b1 i (by omega)).1, h1 i hi⟩, fun i j l1 l2 => b2 i j l1 (by omega), fun q q0 q1 hd => ?_⟩
  obtain ⟨i, i1, i2⟩ := b3 q q0 q1 (by omega)
  refine ⟨i, ?_, i2⟩
  apply Nat.not_le.mp
  intro le
  rcases h2 with e | g
  · omega
  · rcases Nat.lt_or_ge w i with d | d
    · have := b2 w i d i1
      have x1 := (b1 w (by omega)).1
      have x2 := (b1 i i1).1
      rw [i2] at this x2
      omega
    · rw [show i = w by omega] at i2
      rw [i2] at g
      omega
theorem ky_dk {a b s p q : Int} (hp : 0 ≤ p ∧ p < 1681) (hq : 0 ≤ q ∧ q < 1681) (h1 : dq p ≤ 400) (h2 : dq q ≤ 400) (h : frm a b s (px p) (py p) < frm a b s (px q) (py q) ∨ (frm a b s (px p) (py p) = frm a b s (px q) (py q) ∧ dq p * 2048 + p < dq q * 2048 + q)) :
    ky a b s (px p) (py p) < ky a b s (px q) (py q) := by
  have b1 := px_b hp
  have b2 := px_b hq
  have n1 := dq_nn p
  have n2 := dq_nn q
  unfold ky
  unfold dq at *
  generalize frm a b s (px p) (py p) = f at *
  generalize frm a b s (px q) (py q) = g at *
  unfold pc at b1 b2
  generalize px p * px p + py p * py p = d1 at *
  generalize px q * px q + py q * py q = d2 at *
  rcases h with h | ⟨h, h'⟩
  · omega
  · subst h
    rcases Int.lt_trichotomy d1 d2 with c | c | c
    · omega
    · subst c
      rcases Int.lt_trichotomy (py p) (py q) with e | e | e <;> omega
    · omega
theorem frm_b {a b s p m : Int} (hp : 0 ≤ p ∧ p < 1681) (h : dq p ≤ m) (hm : m ≤ 400) (hs : s = 0 ∨ m = a * a + b * b) : 0 ≤ frm a b s (px p) (py p) ∧ frm a b s (px p) (py p) ≤ 400 := by
  have b1 := px_b hp
  unfold frm
  split
  · have := dq_nn p
    unfold dq at *
    omega
  · rename_i s0
    have em : m = a * a + b * b := by rcases hs with c | c; exact absurd c s0; exact c
    split
    · have e := nrm a b (px p) (py p)
      have := sq_nn (a * px p + b * py p)
      have nn := sq_nn a
      have nn2 := sq_nn b
      have k : (a * a + b * b) * (px p * px p + py p * py p) ≤ (a * a + b * b) * (a * a + b * b) := Int.mul_le_mul_of_nonneg_left (by unfold dq at h; omega) (by omega)
      have := sq_b (x := a * py p - b * px p) (m := a * a + b * b) (by omega) (by omega)
      split <;> omega
    · split <;> split <;> omega
theorem OF_round {a b : Int} {p : Nat → Int} {w : Nat} (hn : a * a + b * b ≤ 400) (h : BDo p w (a * a + b * b)) : OF a b 0 p w := by
  obtain ⟨b1, b2, b3⟩ := h
  refine ⟨b1, fun i j l1 l2 => ?_, fun x y hd => ?_⟩
  · have h1 := b1 i (by omega)
    have h2 := b1 j l2
    refine ky_dk h1.1 h2.1 (by omega) (by omega) ?_
    have := b2 i j l1 l2
    have e : ∀ q, frm a b 0 (px q) (py q) = dq q := fun q => by unfold frm dq; rw [if_pos rfl]
    rw [e, e]
    omega
  · have := ds_b (x := x) (y := y) (m := 20) (by omega) (by omega)
    have := pc_xy this.1 this.2
    refine b3 _ this.2.2.1 this.2.2.2 ?_
    unfold dq
    rw [this.1, this.2.1]
    exact hd
theorem sort_at {f p out : Nat → Int} {w : Nat} (hf : ∀ k, k < w → 0 ≤ f k ∧ f k ≤ 400) (ho : ∀ k, k < w → out (ps f w k).toNat = p k) {i : Nat} (hi : i < w) : ∃ k, k < w ∧ out i = p k ∧ ps f w k = i := by
  obtain ⟨k, k1, k2⟩ := ps_sur (f := f) (w := w) (M := 401) (fun k hk => by have := hf k hk; omega) (q := (i : Int)) (by omega) (by omega)
  have := ho k k1
  rw [k2, Int.toNat_natCast] at this
  exact ⟨k, k1, this, k2⟩
theorem OF_sort {a b s : Int} {f p out : Nat → Int} {w : Nat} (hn : a * a + b * b ≤ 400) (h : BDo p w (a * a + b * b)) (hf : ∀ k, k < w → f k = frm a b s (px (p k)) (py (p k))) (ho : ∀ k, k < w → out (ps f w k).toNat = p k) : OF a b s out w := by
  obtain ⟨b1, b2, b3⟩ := h
  have fb : ∀ k, k < w → 0 ≤ f k ∧ f k ≤ 400 := fun k hk => by rw [hf k hk]; exact frm_b (b1 k hk).1 (b1 k hk).2 (by omega) (Or.inr rfl)
  refine ⟨fun i hi => ?_, fun i j l1 l2 => ?_, fun x y hd => ?_⟩
  · obtain ⟨k, k1, k2, -⟩ := sort_at fb ho hi
    rw [k2]; exact b1 k k1
  · obtain ⟨k, k1, k2, k3⟩ := sort_at fb ho (show i < w by omega)
    obtain ⟨m, m1, m2, m3⟩ := sort_at fb ho l2
    rw [k2, m2]
    refine ky_dk (b1 k k1).1 (b1 m m1).1 (by have := (b1 k k1).2; omega) (by have := (b1 m m1).2; omega) ?_
    rw [← hf k k1, ← hf m m1]
    rcases ps_ord (f := f) k1 m1 (by omega) with c | ⟨c, d⟩
    · exact Or.inl c
    · exact Or.inr ⟨c, b2 k m d m1⟩
  · have := ds_b (x := x) (y := y) (m := 20) (by omega) (by omega)
    have := pc_xy this.1 this.2
    obtain ⟨k, k1, k2⟩ := b3 (pc x y) this.2.2.1 this.2.2.2 (by unfold dq; rw [this.1, this.2.1]; exact hd)
    exact ⟨(ps f w k).toNat, by have := ps_b (f := f) k1; omega, by rw [ho k k1, k2]⟩
theorem BD_sort {f p out : Nat → Int} {w : Nat} (b1 : ∀ i, i < w → (0 ≤ p i ∧ p i < 1681) ∧ dq (p i) ≤ 400) (b2 : ∀ i j, i < j → j < w → p i < p j) (b3 : ∀ q, 0 ≤ q → q < 1681 → dq q ≤ 400 → ∃ i, i < w ∧ p i = q) (hf : ∀ k, k < w → f k = dq (p k)) (ho : ∀ k, k < w → out (ps f w k).toNat = p k) : BDo out w 400 := by
  have fb : ∀ k, k < w → 0 ≤ f k ∧ f k ≤ 400 := fun k hk => by rw [hf k hk]; exact ⟨dq_nn _, (b1 k hk).2⟩
  refine ⟨fun i hi => ?_, fun i j l1 l2 => ?_, fun q q0 q1 hd => ?_⟩
  · obtain ⟨k, k1, k2, -⟩ := sort_at fb ho hi
    rw [k2]; exact b1 k k1
  · obtain ⟨k, k1, k2, k3⟩ := sort_at fb ho (show i < w by omega)
    obtain ⟨m, m1, m2, m3⟩ := sort_at fb ho l2
    rw [k2, m2, ← hf k k1, ← hf m m1]
    have z1 := (b1 k k1).1
    have z2 := (b1 m m1).1
    rcases ps_ord (f := f) k1 m1 (by omega) with c | ⟨c, d⟩
    · omega
    · have := b2 k m d m1; omega
  · obtain ⟨k, k1, k2⟩ := b3 q q0 q1 hd
    exact ⟨(ps f w k).toNat, by have := ps_b (f := f) k1; omega, by rw [ho k k1, k2]⟩
