/-! the heap at the law's loop: a hundred cells above N, each with its shape; contents by two families -/
abbrev jI (z : Int) : Value := .int (Int32.ofInt z)
def cell (N k : Nat) (F : Nat → Int) (G : Nat → Int64) : xE :=
  if k = 0 then jO 0 [.ref (N + 1), .ref (N + 2), .ref (N + 7), .ref (N + 24), .ref (N + 30), .ref (N + 59), jI (F 6), jI (F 7)]
  else if k = 1 then jA 0 512 F
  else if k = 2 then jR 4 4 (fun j => if j < 4 then some (N + (3 + j)) else none)
  else if k < 7 then jA 0 3072 F
  else if k = 7 then jR 6 4 (fun j => if j < 4 then some (N + (8 + 4 * j)) else none)
  else if k < 24 then (if k % 4 = 0 then jO 1 [.ref (N + (k + 1)), .ref (N + (k + 2)), .ref (N + (k + 3)), jI (F 3), jI (F 4)] else if k % 4 = 3 then jA 0 512 F else jA 0 3072 F)
  else if k = 24 then jO 2 [.ref (N + 25), .ref (N + 26), .ref (N + 27), .ref (N + 28), .ref (N + 29)]
  else if k < 27 then jA 0 64 F
  else if k = 27 then jL 64 G
  else if k < 30 then jL 3072 G
  else if k = 30 then jR 9 8 (fun j => if j < 8 then some (N + (35 + 3 * j)) else none)
  else if k = 31 then jO 3 [.ref (N + 32), .ref (N + 33), .ref (N + 34), jI (F 3)]
  else if k < 34 then jA 0 1681 F
  else if k = 34 then jA 0 402 F
  else if k < 59 then (if k % 3 = 2 then jO 4 [.ref (N + 31), .ref (N + (k + 1)), .ref (N + (k + 2)), jI (F 3), jI (F 4), jI (F 5)] else jA 0 400 F)
  else if k = 59 then jO 5 [.ref (N + 60), .ref (N + 77), jI (F 2), jI (F 3), jI (F 4)]
  else if k = 60 then jR 11 16 (fun j => if j < 16 then some (N + (61 + j)) else none)
  else if k < 77 then jO 6 [jI (F 0), jI (F 1), jI (F 2), jI (F 3), jI (F 4)]
  else if k = 77 then jA 0 16 F
  else if k = 78 then jO 7 [jI (F 0), .ref (N + 79), .ref (N + 80), jI (F 3), jI (F 4), .ref (N + 81), .ref (N + 82), .ref (N + 83), .ref (N + 84), .ref (N + 85), .ref (N + 86), .ref (N + 87), .ref (N + 88), .ref (N + 89), .ref (N + 90), .ref (N + 91), .ref (N + 92), .ref (N + 93), .ref (N + 94), jI (F 19), jI (F 20), jI (F 21), jI (F 22), jI (F 23), jI (F 24), .ref (N + 95), .ref (N + 96), .ref (N + 97), .ref (N + 98), .ref (N + 99), .ref (N + 100)]
  else if k = 79 then jA 0 512 F
  else if k = 80 then jA 0 12288 F
  else if k = 81 then jA 2 4 F
  else if k = 82 then jA 2 4 F
  else if k = 83 then jA 0 12288 F
  else if k = 84 then jA 0 2048 F
  else if k = 85 then jA 0 12288 F
  else if k = 86 then jA 2 64 F
  else if k = 87 then jA 0 4 F
  else if k = 88 then jA 0 8 F
  else if k = 89 then jA 0 8 F
  else if k = 90 then jA 0 8 F
  else if k = 91 then jA 2 8 F
  else if k = 92 then jA 0 8 F
  else if k = 93 then jA 0 3200 F
  else if k = 94 then jA 0 3200 F
  else if k = 95 then jA 0 16 F
  else if k = 96 then jA 0 16 F
  else if k = 97 then jA 0 16 F
  else if k = 98 then jA 0 16 F
  else if k = 99 then jA 0 16 F
  else if k = 100 then jA 0 16 F
  else jL 1 G
def HP (N : Nat) (h : xH) (S : Nat → Nat → Int) (T : Nat → Nat → Int64) : Prop := (∀ k, k < 102 → h.1 (N + k) = some (cell N k (S k) (T k))) ∧ N + 102 ≤ h.2.1
def sup (S : Nat → Nat → Int) (k : Nat) (F : Nat → Int) : Nat → Nat → Int := fun q => if q = k then F else S q
def supL (T : Nat → Nat → Int64) (k : Nat) (G : Nat → Int64) : Nat → Nat → Int64 := fun q => if q = k then G else T q
theorem sup_same (S : Nat → Nat → Int) (k : Nat) (F : Nat → Int) : sup S k F k = F := by simp [sup]
theorem sup_ne (S : Nat → Nat → Int) {k q : Nat} (F : Nat → Int) (h : q ≠ k) : sup S k F q = S q := by simp [sup, h]
theorem sup_sup (S : Nat → Nat → Int) (k : Nat) (F F' : Nat → Int) : sup (sup S k F) k F' = sup S k F' := by
  funext q
  unfold sup
  split <;> rfl
theorem sup_id (S : Nat → Nat → Int) (k : Nat) : sup S k (S k) = S := by
  funext q
  unfold sup
  split
  · next h => rw [h]
  · rfl
theorem jup_jup (F : Nat → Int) (i : Nat) (v w : Int) : jup (jup F i v) i w = jup F i w := by
  funext q
  unfold jup
  split <;> rfl
theorem supL_same (S : Nat → Nat → Int64) (k : Nat) (F : Nat → Int64) : supL S k F k = F := by simp [supL]
theorem supL_ne (S : Nat → Nat → Int64) {k q : Nat} (F : Nat → Int64) (h : q ≠ k) : supL S k F q = S q := by simp [supL, h]
section HPS
variable {N : Nat} {h : xH} {S : Nat → Nat → Int} {T : Nat → Nat → Int64}
theorem HP.put (H : HP N h S T) {k : Nat} (hk : k < 102) (F : Nat → Int) {e : xE} (he : e = cell N k F (T k)) : HP N (xset h (N + k) e) (sup S k F) T := by
  refine ⟨fun q hq => ?_, H.2⟩
  by_cases hqk : q = k
  · subst hqk
    rw [j_get, sup_same, he]
  · rw [j_gne _ _ (by omega), sup_ne _ _ hqk]
    exact H.1 q hq
theorem HP.putL (H : HP N h S T) {k : Nat} (hk : k < 102) (G : Nat → Int64) {e : xE} (he : e = cell N k (S k) G) : HP N (xset h (N + k) e) S (supL T k G) := by
  refine ⟨fun q hq => ?_, H.2⟩
  by_cases hqk : q = k
  · subst hqk
    rw [j_get, supL_same, he]
  · rw [j_gne _ _ (by omega), supL_ne _ _ hqk]
    exact H.1 q hq
theorem HP.new (H : HP N h S T) (e : xE) (n : Nat) : HP N (xnew h e n) S T := by
  refine ⟨fun q hq => ?_, Nat.le_succ_of_le H.2⟩
  have := H.2
  show (if N + q = h.2.1 then some e else h.1 (N + q)) = _
  rw [if_neg (by omega)]
  exact H.1 q hq
theorem HP.get (H : HP N h S T) {k : Nat} (hk : k < 102) : h.1 (N + k) = some (cell N k (S k) (T k)) := H.1 k hk
theorem HP.get0 (H : HP N h S T) : h.1 N = some (cell N 0 (S 0) (T 0)) := H.1 0 (by omega)
theorem HP.sw (H : HP N h S T) {S' : Nat → Nat → Int} (hS : ∀ k, k < 102 → S' k = S k) : HP N h S' T := ⟨fun k hk => by rw [hS k hk]; exact H.1 k hk, H.2⟩
end HPS
theorem cell_page (N : Nat) (F : Nat → Int) (G : Nat → Int64) {p : Nat} (hp : p < 4) : cell N (3 + p) F G = jA 0 3072 F := by
  match p, hp with
  | 0, _ => rfl
  | 1, _ => rfl
  | 2, _ => rfl
  | 3, _ => rfl
theorem cell_job (N : Nat) (F : Nat → Int) (G : Nat → Int64) {p : Nat} (hp : p < 4) : cell N (8 + 4 * p) F G = jO 1 [.ref (N + (9 + 4 * p)), .ref (N + (10 + 4 * p)), .ref (N + (11 + 4 * p)), jI (F 3), jI (F 4)] ∧ cell N (9 + 4 * p) F G = jA 0 3072 F ∧ cell N (10 + 4 * p) F G = jA 0 3072 F ∧ cell N (11 + 4 * p) F G = jA 0 512 F := by
  match p, hp with
  | 0, _ => exact ⟨rfl, rfl, rfl, rfl⟩
  | 1, _ => exact ⟨rfl, rfl, rfl, rfl⟩
  | 2, _ => exact ⟨rfl, rfl, rfl, rfl⟩
  | 3, _ => exact ⟨rfl, rfl, rfl, rfl⟩
theorem cell_scr (N : Nat) (F : Nat → Int) (G : Nat → Int64) {i : Nat} (hi : i < 8) : cell N (35 + 3 * i) F G = jO 4 [.ref (N + 31), .ref (N + (36 + 3 * i)), .ref (N + (37 + 3 * i)), jI (F 3), jI (F 4), jI (F 5)] ∧ cell N (36 + 3 * i) F G = jA 0 400 F ∧ cell N (37 + 3 * i) F G = jA 0 400 F := by
  match i, hi with
  | 0, _ => exact ⟨rfl, rfl, rfl⟩
  | 1, _ => exact ⟨rfl, rfl, rfl⟩
  | 2, _ => exact ⟨rfl, rfl, rfl⟩
  | 3, _ => exact ⟨rfl, rfl, rfl⟩
  | 4, _ => exact ⟨rfl, rfl, rfl⟩
  | 5, _ => exact ⟨rfl, rfl, rfl⟩
  | 6, _ => exact ⟨rfl, rfl, rfl⟩
  | 7, _ => exact ⟨rfl, rfl, rfl⟩
theorem cell_leaf (N : Nat) (F : Nat → Int) (G : Nat → Int64) {i : Nat} (hi : i < 16) : cell N (61 + i) F G = jO 6 [jI (F 0), jI (F 1), jI (F 2), jI (F 3), jI (F 4)] := by
  match i, hi with
  | 0, _ => rfl
  | 1, _ => rfl
  | 2, _ => rfl
  | 3, _ => rfl
  | 4, _ => rfl
  | 5, _ => rfl
  | 6, _ => rfl
  | 7, _ => rfl
  | 8, _ => rfl
  | 9, _ => rfl
  | 10, _ => rfl
  | 11, _ => rfl
  | 12, _ => rfl
  | 13, _ => rfl
  | 14, _ => rfl
  | 15, _ => rfl
  | n + 16, h => exact absurd h (by omega)
theorem C0 (N : Nat) (F : Nat → Int) (G : Nat → Int64) :
    (cell N 1 F G = jA 0 512 F) ∧
    (cell N 2 F G = jR 4 4 (fun j => if j < 4 then some (N + (3 + j)) else none)) ∧
    (cell N 7 F G = jR 6 4 (fun j => if j < 4 then some (N + (8 + 4 * j)) else none)) ∧
    (cell N 25 F G = jA 0 64 F) ∧
    (cell N 26 F G = jA 0 64 F) ∧
    (cell N 27 F G = jL 64 G) ∧
    (cell N 28 F G = jL 3072 G) ∧
    (cell N 29 F G = jL 3072 G) ∧
    (cell N 30 F G = jR 9 8 (fun j => if j < 8 then some (N + (35 + 3 * j)) else none)) ∧
    (cell N 32 F G = jA 0 1681 F) ∧
    (cell N 33 F G = jA 0 1681 F) ∧
    (cell N 34 F G = jA 0 402 F) ∧
    (cell N 60 F G = jR 11 16 (fun j => if j < 16 then some (N + (61 + j)) else none)) ∧
    (cell N 77 F G = jA 0 16 F) ∧
    (cell N 79 F G = jA 0 512 F) ∧
    (cell N 80 F G = jA 0 12288 F) ∧
    (cell N 81 F G = jA 2 4 F) ∧
    (cell N 82 F G = jA 2 4 F) ∧
    (cell N 83 F G = jA 0 12288 F) ∧
    (cell N 84 F G = jA 0 2048 F) ∧
    (cell N 85 F G = jA 0 12288 F) ∧
    (cell N 86 F G = jA 2 64 F) ∧
    (cell N 87 F G = jA 0 4 F) ∧
    (cell N 88 F G = jA 0 8 F) ∧
    (cell N 89 F G = jA 0 8 F) ∧
    (cell N 90 F G = jA 0 8 F) ∧
    (cell N 91 F G = jA 2 8 F) ∧
    (cell N 92 F G = jA 0 8 F) ∧
    (cell N 93 F G = jA 0 3200 F) ∧
    (cell N 94 F G = jA 0 3200 F) ∧
    (cell N 95 F G = jA 0 16 F) ∧
    (cell N 96 F G = jA 0 16 F) ∧
    (cell N 97 F G = jA 0 16 F) ∧
    (cell N 98 F G = jA 0 16 F) ∧
    (cell N 99 F G = jA 0 16 F) ∧
    (cell N 100 F G = jA 0 16 F) ∧
    (cell N 101 F G = jL 1 G) :=
  ⟨rfl, rfl, rfl, rfl, rfl, rfl, rfl, rfl, rfl, rfl, rfl, rfl, rfl, rfl, rfl, rfl, rfl, rfl, rfl, rfl, rfl, rfl, rfl, rfl, rfl, rfl, rfl, rfl, rfl, rfl, rfl, rfl, rfl, rfl, rfl, rfl, rfl⟩
theorem CM (N : Nat) (F : Nat → Int) (G : Nat → Int64) :
    (xfld 7 0 (some (cell N 78 F G)) = some (jI (F 0))) ∧
    (xfld 7 1 (some (cell N 78 F G)) = some (.ref (N + 79))) ∧
    (xfld 7 2 (some (cell N 78 F G)) = some (.ref (N + 80))) ∧
    (xfld 7 3 (some (cell N 78 F G)) = some (jI (F 3))) ∧
    (xfld 7 4 (some (cell N 78 F G)) = some (jI (F 4))) ∧
    (xfld 7 5 (some (cell N 78 F G)) = some (.ref (N + 81))) ∧
    (xfld 7 6 (some (cell N 78 F G)) = some (.ref (N + 82))) ∧
    (xfld 7 7 (some (cell N 78 F G)) = some (.ref (N + 83))) ∧
    (xfld 7 8 (some (cell N 78 F G)) = some (.ref (N + 84))) ∧
    (xfld 7 9 (some (cell N 78 F G)) = some (.ref (N + 85))) ∧
    (xfld 7 10 (some (cell N 78 F G)) = some (.ref (N + 86))) ∧
    (xfld 7 11 (some (cell N 78 F G)) = some (.ref (N + 87))) ∧
    (xfld 7 12 (some (cell N 78 F G)) = some (.ref (N + 88))) ∧
    (xfld 7 13 (some (cell N 78 F G)) = some (.ref (N + 89))) ∧
    (xfld 7 14 (some (cell N 78 F G)) = some (.ref (N + 90))) ∧
    (xfld 7 15 (some (cell N 78 F G)) = some (.ref (N + 91))) ∧
    (xfld 7 16 (some (cell N 78 F G)) = some (.ref (N + 92))) ∧
    (xfld 7 17 (some (cell N 78 F G)) = some (.ref (N + 93))) ∧
    (xfld 7 18 (some (cell N 78 F G)) = some (.ref (N + 94))) ∧
    (xfld 7 19 (some (cell N 78 F G)) = some (jI (F 19))) ∧
    (xfld 7 20 (some (cell N 78 F G)) = some (jI (F 20))) ∧
    (xfld 7 21 (some (cell N 78 F G)) = some (jI (F 21))) ∧
    (xfld 7 22 (some (cell N 78 F G)) = some (jI (F 22))) ∧
    (xfld 7 23 (some (cell N 78 F G)) = some (jI (F 23))) ∧
    (xfld 7 24 (some (cell N 78 F G)) = some (jI (F 24))) ∧
    (xfld 7 25 (some (cell N 78 F G)) = some (.ref (N + 95))) ∧
    (xfld 7 26 (some (cell N 78 F G)) = some (.ref (N + 96))) ∧
    (xfld 7 27 (some (cell N 78 F G)) = some (.ref (N + 97))) ∧
    (xfld 7 28 (some (cell N 78 F G)) = some (.ref (N + 98))) ∧
    (xfld 7 29 (some (cell N 78 F G)) = some (.ref (N + 99))) ∧
    (xfld 7 30 (some (cell N 78 F G)) = some (.ref (N + 100))) ∧
    (∀ r, xrc 7 (some (cell N 78 F G)) r = r) :=
  ⟨rfl, rfl, rfl, rfl, rfl, rfl, rfl, rfl, rfl, rfl, rfl, rfl, rfl, rfl, rfl, rfl, rfl, rfl, rfl, rfl, rfl, rfl, rfl, rfl, rfl, rfl, rfl, rfl, rfl, rfl, rfl, fun _ => rfl⟩
theorem CP (N : Nat) (F : Nat → Int) (G : Nat → Int64) :
    (∀ h o v, xptf (some (cell N 78 F G)) h o 7 0 0 (.int (Int32.ofInt v)) = some (xset h o (cell N 78 (jup F 0 v) G))) ∧
    (∀ h o v, xptf (some (cell N 78 F G)) h o 7 3 0 (.int (Int32.ofInt v)) = some (xset h o (cell N 78 (jup F 3 v) G))) ∧
    (∀ h o v, xptf (some (cell N 78 F G)) h o 7 4 0 (.int (Int32.ofInt v)) = some (xset h o (cell N 78 (jup F 4 v) G))) ∧
    (∀ h o v, xptf (some (cell N 78 F G)) h o 7 19 0 (.int (Int32.ofInt v)) = some (xset h o (cell N 78 (jup F 19 v) G))) ∧
    (∀ h o v, xptf (some (cell N 78 F G)) h o 7 20 0 (.int (Int32.ofInt v)) = some (xset h o (cell N 78 (jup F 20 v) G))) ∧
    (∀ h o v, xptf (some (cell N 78 F G)) h o 7 21 0 (.int (Int32.ofInt v)) = some (xset h o (cell N 78 (jup F 21 v) G))) ∧
    (∀ h o v, xptf (some (cell N 78 F G)) h o 7 22 0 (.int (Int32.ofInt v)) = some (xset h o (cell N 78 (jup F 22 v) G))) ∧
    (∀ h o v, xptf (some (cell N 78 F G)) h o 7 23 0 (.int (Int32.ofInt v)) = some (xset h o (cell N 78 (jup F 23 v) G))) ∧
    (∀ h o v, xptf (some (cell N 78 F G)) h o 7 24 0 (.int (Int32.ofInt v)) = some (xset h o (cell N 78 (jup F 24 v) G))) :=
  ⟨fun _ _ _ => rfl, fun _ _ _ => rfl, fun _ _ _ => rfl, fun _ _ _ => rfl, fun _ _ _ => rfl, fun _ _ _ => rfl, fun _ _ _ => rfl, fun _ _ _ => rfl, fun _ _ _ => rfl⟩
theorem jX_ret {W : xWt} {M : xM} {pc nx c : Nat} {l : List (Option Value)} {rest : List Value} {h : xH} (hx : xhs M = []) : xret W M pc nx l rest (jX c h) = jX c h := j_rx hx
