/-! the objects of the class: fields read and written -/
theorem CR (N : Nat) (F : Nat → Int) (G : Nat → Int64) :
    (xfld 0 0 (some (cell N 0 F G)) = some (.ref (N + 1))) ∧
    (xfld 0 1 (some (cell N 0 F G)) = some (.ref (N + 2))) ∧
    (xfld 0 2 (some (cell N 0 F G)) = some (.ref (N + 7))) ∧
    (xfld 0 3 (some (cell N 0 F G)) = some (.ref (N + 24))) ∧
    (xfld 0 4 (some (cell N 0 F G)) = some (.ref (N + 30))) ∧
    (xfld 0 5 (some (cell N 0 F G)) = some (.ref (N + 59))) ∧
    (xfld 0 6 (some (cell N 0 F G)) = some (jI (F 6))) ∧
    (xfld 0 7 (some (cell N 0 F G)) = some (jI (F 7))) ∧
    (∀ r, xrc 0 (some (cell N 0 F G)) r = r) ∧
    (∀ h o v, xptf (some (cell N 0 F G)) h o 0 6 0 (.int (Int32.ofInt v)) = some (xset h o (cell N 0 (jup F 6 v) G))) ∧
    (∀ h o v, xptf (some (cell N 0 F G)) h o 0 7 0 (.int (Int32.ofInt v)) = some (xset h o (cell N 0 (jup F 7 v) G))) ∧
    (xfld 2 0 (some (cell N 24 F G)) = some (.ref (N + 25))) ∧
    (xfld 2 1 (some (cell N 24 F G)) = some (.ref (N + 26))) ∧
    (xfld 2 2 (some (cell N 24 F G)) = some (.ref (N + 27))) ∧
    (xfld 2 3 (some (cell N 24 F G)) = some (.ref (N + 28))) ∧
    (xfld 2 4 (some (cell N 24 F G)) = some (.ref (N + 29))) ∧
    (∀ r, xrc 2 (some (cell N 24 F G)) r = r) ∧
    (xfld 3 0 (some (cell N 31 F G)) = some (.ref (N + 32))) ∧
    (xfld 3 1 (some (cell N 31 F G)) = some (.ref (N + 33))) ∧
    (xfld 3 2 (some (cell N 31 F G)) = some (.ref (N + 34))) ∧
    (xfld 3 3 (some (cell N 31 F G)) = some (jI (F 3))) ∧
    (∀ r, xrc 3 (some (cell N 31 F G)) r = r) ∧
    (∀ h o v, xptf (some (cell N 31 F G)) h o 3 3 0 (.int (Int32.ofInt v)) = some (xset h o (cell N 31 (jup F 3 v) G))) ∧
    (xfld 5 0 (some (cell N 59 F G)) = some (.ref (N + 60))) ∧
    (xfld 5 1 (some (cell N 59 F G)) = some (.ref (N + 77))) ∧
    (xfld 5 2 (some (cell N 59 F G)) = some (jI (F 2))) ∧
    (xfld 5 3 (some (cell N 59 F G)) = some (jI (F 3))) ∧
    (xfld 5 4 (some (cell N 59 F G)) = some (jI (F 4))) ∧
    (∀ r, xrc 5 (some (cell N 59 F G)) r = r) ∧
    (∀ h o v, xptf (some (cell N 59 F G)) h o 5 2 0 (.int (Int32.ofInt v)) = some (xset h o (cell N 59 (jup F 2 v) G))) ∧
    (∀ h o v, xptf (some (cell N 59 F G)) h o 5 3 0 (.int (Int32.ofInt v)) = some (xset h o (cell N 59 (jup F 3 v) G))) ∧
    (∀ h o v, xptf (some (cell N 59 F G)) h o 5 4 0 (.int (Int32.ofInt v)) = some (xset h o (cell N 59 (jup F 4 v) G))) := by
  refine ⟨?_, ?_, ?_, ?_, ?_, ?_, ?_, ?_, ?_, ?_, ?_, ?_, ?_, ?_, ?_, ?_, ?_, ?_, ?_, ?_, ?_, ?_, ?_, ?_, ?_, ?_, ?_, ?_, ?_, ?_, ?_, ?_⟩ <;> first | rfl | (intros; rfl)
theorem CJ (N : Nat) (F : Nat → Int) (G : Nat → Int64) {p : Nat} (hp : p < 4) :
    (xfld 1 0 (some (cell N (8 + 4 * p) F G)) = some (.ref (N + (9 + 4 * p)))) ∧
    (xfld 1 1 (some (cell N (8 + 4 * p) F G)) = some (.ref (N + (10 + 4 * p)))) ∧
    (xfld 1 2 (some (cell N (8 + 4 * p) F G)) = some (.ref (N + (11 + 4 * p)))) ∧
    (xfld 1 3 (some (cell N (8 + 4 * p) F G)) = some (jI (F 3))) ∧
    (xfld 1 4 (some (cell N (8 + 4 * p) F G)) = some (jI (F 4))) ∧
    (∀ r, xrc 1 (some (cell N (8 + 4 * p) F G)) r = r) ∧
    (∀ h o, xptf (some (cell N (8 + 4 * p) F G)) h o 1 3 1 (.int (Int32.ofInt 0)) = some (xset h o (cell N (8 + 4 * p) (jup F 3 0) G))) ∧
    (∀ h o, xptf (some (cell N (8 + 4 * p) F G)) h o 1 3 1 (.int (Int32.ofInt 1)) = some (xset h o (cell N (8 + 4 * p) (jup F 3 1) G))) ∧
    (∀ h o, xptf (some (cell N (8 + 4 * p) F G)) h o 1 4 1 (.int (Int32.ofInt 0)) = some (xset h o (cell N (8 + 4 * p) (jup F 4 0) G))) ∧
    (∀ h o, xptf (some (cell N (8 + 4 * p) F G)) h o 1 4 1 (.int (Int32.ofInt 1)) = some (xset h o (cell N (8 + 4 * p) (jup F 4 1) G))) ∧
    (cell N (9 + 4 * p) F G = jA 0 3072 F) ∧
    (cell N (10 + 4 * p) F G = jA 0 3072 F) ∧
    (cell N (11 + 4 * p) F G = jA 0 512 F) ∧
    (cell N (3 + p) F G = jA 0 3072 F) := by
  match p, hp with
  | 0, _ => refine ⟨?_, ?_, ?_, ?_, ?_, ?_, ?_, ?_, ?_, ?_, ?_, ?_, ?_, ?_⟩ <;> first | rfl | (intros; rfl)
  | 1, _ => refine ⟨?_, ?_, ?_, ?_, ?_, ?_, ?_, ?_, ?_, ?_, ?_, ?_, ?_, ?_⟩ <;> first | rfl | (intros; rfl)
  | 2, _ => refine ⟨?_, ?_, ?_, ?_, ?_, ?_, ?_, ?_, ?_, ?_, ?_, ?_, ?_, ?_⟩ <;> first | rfl | (intros; rfl)
  | 3, _ => refine ⟨?_, ?_, ?_, ?_, ?_, ?_, ?_, ?_, ?_, ?_, ?_, ?_, ?_, ?_⟩ <;> first | rfl | (intros; rfl)
theorem CS (N : Nat) (F : Nat → Int) (G : Nat → Int64) {i : Nat} (hi : i < 8) :
    (xfld 4 0 (some (cell N (35 + 3 * i) F G)) = some (.ref (N + 31))) ∧
    (xfld 4 1 (some (cell N (35 + 3 * i) F G)) = some (.ref (N + (36 + 3 * i)))) ∧
    (xfld 4 2 (some (cell N (35 + 3 * i) F G)) = some (.ref (N + (37 + 3 * i)))) ∧
    (xfld 4 3 (some (cell N (35 + 3 * i) F G)) = some (jI (F 3))) ∧
    (xfld 4 4 (some (cell N (35 + 3 * i) F G)) = some (jI (F 4))) ∧
    (xfld 4 5 (some (cell N (35 + 3 * i) F G)) = some (jI (F 5))) ∧
    (∀ r, xrc 4 (some (cell N (35 + 3 * i) F G)) r = r) ∧
    (∀ h o v, xptf (some (cell N (35 + 3 * i) F G)) h o 4 3 0 (.int (Int32.ofInt v)) = some (xset h o (cell N (35 + 3 * i) (jup F 3 v) G))) ∧
    (∀ h o v, xptf (some (cell N (35 + 3 * i) F G)) h o 4 4 0 (.int (Int32.ofInt v)) = some (xset h o (cell N (35 + 3 * i) (jup F 4 v) G))) ∧
    (∀ h o v, xptf (some (cell N (35 + 3 * i) F G)) h o 4 5 0 (.int (Int32.ofInt v)) = some (xset h o (cell N (35 + 3 * i) (jup F 5 v) G))) ∧
    (cell N (36 + 3 * i) F G = jA 0 400 F) ∧
    (cell N (37 + 3 * i) F G = jA 0 400 F) := by
  match i, hi with
  | 0, _ => refine ⟨?_, ?_, ?_, ?_, ?_, ?_, ?_, ?_, ?_, ?_, ?_, ?_⟩ <;> first | rfl | (intros; rfl)
  | 1, _ => refine ⟨?_, ?_, ?_, ?_, ?_, ?_, ?_, ?_, ?_, ?_, ?_, ?_⟩ <;> first | rfl | (intros; rfl)
  | 2, _ => refine ⟨?_, ?_, ?_, ?_, ?_, ?_, ?_, ?_, ?_, ?_, ?_, ?_⟩ <;> first | rfl | (intros; rfl)
  | 3, _ => refine ⟨?_, ?_, ?_, ?_, ?_, ?_, ?_, ?_, ?_, ?_, ?_, ?_⟩ <;> first | rfl | (intros; rfl)
  | 4, _ => refine ⟨?_, ?_, ?_, ?_, ?_, ?_, ?_, ?_, ?_, ?_, ?_, ?_⟩ <;> first | rfl | (intros; rfl)
  | 5, _ => refine ⟨?_, ?_, ?_, ?_, ?_, ?_, ?_, ?_, ?_, ?_, ?_, ?_⟩ <;> first | rfl | (intros; rfl)
  | 6, _ => refine ⟨?_, ?_, ?_, ?_, ?_, ?_, ?_, ?_, ?_, ?_, ?_, ?_⟩ <;> first | rfl | (intros; rfl)
  | 7, _ => refine ⟨?_, ?_, ?_, ?_, ?_, ?_, ?_, ?_, ?_, ?_, ?_, ?_⟩ <;> first | rfl | (intros; rfl)
theorem CL (N : Nat) (F : Nat → Int) (G : Nat → Int64) {i : Nat} (hi : i < 16) :
    (xfld 6 0 (some (cell N (61 + i) F G)) = some (jI (F 0))) ∧
    (xfld 6 1 (some (cell N (61 + i) F G)) = some (jI (F 1))) ∧
    (xfld 6 2 (some (cell N (61 + i) F G)) = some (jI (F 2))) ∧
    (xfld 6 3 (some (cell N (61 + i) F G)) = some (jI (F 3))) ∧
    (xfld 6 4 (some (cell N (61 + i) F G)) = some (jI (F 4))) ∧
    (∀ r, xrc 6 (some (cell N (61 + i) F G)) r = r) ∧
    (∀ h o v, xptf (some (cell N (61 + i) F G)) h o 6 0 0 (.int (Int32.ofInt v)) = some (xset h o (cell N (61 + i) (jup F 0 v) G))) ∧
    (∀ h o v, xptf (some (cell N (61 + i) F G)) h o 6 1 0 (.int (Int32.ofInt v)) = some (xset h o (cell N (61 + i) (jup F 1 v) G))) ∧
    (∀ h o v, xptf (some (cell N (61 + i) F G)) h o 6 2 0 (.int (Int32.ofInt v)) = some (xset h o (cell N (61 + i) (jup F 2 v) G))) ∧
    (∀ h o v, xptf (some (cell N (61 + i) F G)) h o 6 3 0 (.int (Int32.ofInt v)) = some (xset h o (cell N (61 + i) (jup F 3 v) G))) ∧
    (∀ h o v, xptf (some (cell N (61 + i) F G)) h o 6 4 0 (.int (Int32.ofInt v)) = some (xset h o (cell N (61 + i) (jup F 4 v) G))) := by
  match i, hi with
  | 0, _ => refine ⟨?_, ?_, ?_, ?_, ?_, ?_, ?_, ?_, ?_, ?_, ?_⟩ <;> first | rfl | (intros; rfl)
  | 1, _ => refine ⟨?_, ?_, ?_, ?_, ?_, ?_, ?_, ?_, ?_, ?_, ?_⟩ <;> first | rfl | (intros; rfl)
  | 2, _ => refine ⟨?_, ?_, ?_, ?_, ?_, ?_, ?_, ?_, ?_, ?_, ?_⟩ <;> first | rfl | (intros; rfl)
  | 3, _ => refine ⟨?_, ?_, ?_, ?_, ?_, ?_, ?_, ?_, ?_, ?_, ?_⟩ <;> first | rfl | (intros; rfl)
  | 4, _ => refine ⟨?_, ?_, ?_, ?_, ?_, ?_, ?_, ?_, ?_, ?_, ?_⟩ <;> first | rfl | (intros; rfl)
  | 5, _ => refine ⟨?_, ?_, ?_, ?_, ?_, ?_, ?_, ?_, ?_, ?_, ?_⟩ <;> first | rfl | (intros; rfl)
  | 6, _ => refine ⟨?_, ?_, ?_, ?_, ?_, ?_, ?_, ?_, ?_, ?_, ?_⟩ <;> first | rfl | (intros; rfl)
  | 7, _ => refine ⟨?_, ?_, ?_, ?_, ?_, ?_, ?_, ?_, ?_, ?_, ?_⟩ <;> first | rfl | (intros; rfl)
  | 8, _ => refine ⟨?_, ?_, ?_, ?_, ?_, ?_, ?_, ?_, ?_, ?_, ?_⟩ <;> first | rfl | (intros; rfl)
  | 9, _ => refine ⟨?_, ?_, ?_, ?_, ?_, ?_, ?_, ?_, ?_, ?_, ?_⟩ <;> first | rfl | (intros; rfl)
  | 10, _ => refine ⟨?_, ?_, ?_, ?_, ?_, ?_, ?_, ?_, ?_, ?_, ?_⟩ <;> first | rfl | (intros; rfl)
  | 11, _ => refine ⟨?_, ?_, ?_, ?_, ?_, ?_, ?_, ?_, ?_, ?_, ?_⟩ <;> first | rfl | (intros; rfl)
  | 12, _ => refine ⟨?_, ?_, ?_, ?_, ?_, ?_, ?_, ?_, ?_, ?_, ?_⟩ <;> first | rfl | (intros; rfl)
  | 13, _ => refine ⟨?_, ?_, ?_, ?_, ?_, ?_, ?_, ?_, ?_, ?_, ?_⟩ <;> first | rfl | (intros; rfl)
  | 14, _ => refine ⟨?_, ?_, ?_, ?_, ?_, ?_, ?_, ?_, ?_, ?_, ?_⟩ <;> first | rfl | (intros; rfl)
  | 15, _ => refine ⟨?_, ?_, ?_, ?_, ?_, ?_, ?_, ?_, ?_, ?_, ?_⟩ <;> first | rfl | (intros; rfl)
  | n + 16, h => exact absurd h (by omega)
