theorem inkN_congr {A A' : Nat → Int} {b : Int} : ∀ (n : Nat) (k : Int) (m : Nat), (∀ i : Int, k ≤ i → i < k + n → A (b + i).toNat = A' (b + i).toNat) → inkN A b n k m = inkN A' b n k m
  | 0, _, _, _ => rfl
  | n + 1, k, m, h => by
    show inkN A b n (k + 1) (if 64 ≤ A (b + k).toNat then m ||| 2 ^ k.toNat else m) = inkN A' b n (k + 1) (if 64 ≤ A' (b + k).toNat then m ||| 2 ^ k.toNat else m)
    rw [h k (by omega) (by omega), inkN_congr n (k + 1) _ (fun i a c => h i (by omega) (by omega))]
theorem wtN_congr {A A' B B' : Nat → Int} {b : Int} : ∀ (n : Nat) (k m : Int), (∀ i : Int, k ≤ i → i < k + n → A (b + i).toNat = A' (b + i).toNat ∧ B i.toNat = B' i.toNat) → wtN A B b n k m = wtN A' B' b n k m
  | 0, _, _, _ => rfl
  | n + 1, k, m, h => by
    show wtN A B b n (k + 1) (m + A (b + k).toNat * B k.toNat) = wtN A' B' b n (k + 1) (m + A' (b + k).toNat * B' k.toNat)
    rw [(h k (by omega) (by omega)).1, (h k (by omega) (by omega)).2, wtN_congr n (k + 1) _ (fun i a c => h i (by omega) (by omega))]
theorem QF_QM {S : Nat → Nat → Int} {p : Nat} (J : JR S p) {B : Nat → Int} (hB : ∀ j, j < 8 → B j = B0 j) {q : Nat} (hq : q < 3072) {i : Nat} (hi : i < 64) : QF (S (11 + 4 * p)) B (S (9 + 4 * p)) q i ↔ QM S (p : Int) (S 83 (3072 * p + q)).toNat i := by
  obtain ⟨a1, a2, a3⟩ := J.1 q hq
  have hc : (S (9 + 4 * p) q).toNat < 64 := by omega
  have hk : ∀ c : Nat, c < 64 → inkN (S (11 + 4 * p)) (c * 8) 8 0 0 = inkN (fun j => S 84 (512 * ((p : Int)).toNat + j)) (c * 8) 8 0 0 := fun c hc => inkN_congr 8 0 0 (fun i b1 b2 => by
    rw [Int.toNat_natCast]
    exact (J.2.2 _ (by omega)).1)
  have hm : ∀ c : Nat, c < 64 → wtN (S (11 + 4 * p)) B (c * 8) 8 0 0 = wtN (fun j => S 84 (512 * ((p : Int)).toNat + j)) B0 (c * 8) 8 0 0 := fun c hc => wtN_congr 8 0 0 (fun i b1 b2 => by
    rw [Int.toNat_natCast]
    exact ⟨(J.2.2 _ (by omega)).1, hB _ (by omega)⟩)
  unfold QF QM shyP litP
  rw [← a1]
  dsimp only
  rw [hk _ hc, hk _ hi, hm _ hc, hm _ hi, Nat.and_comm]
  exact ⟨fun z => ⟨z.2.2, z.2.1.2.1, z.2.1.1, z.2.1.2.2⟩, fun z => ⟨hi, ⟨z.2.2.1, z.2.1, z.2.2.2⟩, z.1⟩⟩
