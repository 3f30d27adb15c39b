/-! what holds between the calls -/
def I1 (S : Nat → Nat → Int) : Prop := ∀ j, j < 512 → S 1 j = S 79 j ∧ 0 ≤ S 79 j ∧ S 79 j ≤ 255
def I2 (S : Nat → Nat → Int) : Prop := ∀ p, p < 4 → ∀ j, j < 3072 → S (3 + p) j = S 80 (3072 * p + j) ∧ 0 ≤ S 80 (3072 * p + j) ∧ S 80 (3072 * p + j) < 64
def I3 (S : Nat → Nat → Int) : Prop := (S 0 6 = S 78 3 ∧ S 0 7 = S 78 4) ∧ (0 ≤ S 78 3 ∧ S 78 3 ≤ 100) ∧ (200 ≤ S 78 4 ∧ S 78 4 ≤ 1020)
def I4 (S : Nat → Nat → Int) : Prop := ∀ q, q < 4 → (S (8 + 4 * q) 3 = S 81 q ∧ S (8 + 4 * q) 4 = S 82 q) ∧ (S 81 q = 0 ∨ S 81 q = 1) ∧ (S 82 q = 0 ∨ S 82 q = 1) ∧ (S 81 q = 1 → JR S q) ∧ (S 81 q = 1 → S 82 q = 0 → ∀ j, j < 3072 → S 85 (3072 * q + j) = 0)
def I6 (S : Nat → Nat → Int) : Prop := PLC S ∧ ∀ i, i < 8 → SCi S i ∧ KNi S i
def INV (S : Nat → Nat → Int) : Prop := I1 S ∧ I2 S ∧ I3 S ∧ I4 S ∧ SR S ∧ I6 S
section IVS
variable {S S' : Nat → Nat → Int}
theorem I1_of (h : I1 S) (e : ∀ k, (k = 1 ∨ k = 79) → S' k = S k) : I1 S' := by
  unfold I1; rw [e 1 (by omega), e 79 (by omega)]; exact h
theorem I2_of (h : I2 S) (e : ∀ k, (k = 80 ∨ (3 ≤ k ∧ k < 7)) → S' k = S k) : I2 S' := by
  intro p hp j hj
  rw [e (3 + p) (by omega), e 80 (by omega)]; exact h p hp j hj
theorem I3_of (h : I3 S) (e : S' 0 = S 0) (f : S' 78 3 = S 78 3 ∧ S' 78 4 = S 78 4) : I3 S' := by
  unfold I3; rw [e, f.1, f.2]; exact h
theorem I4_of (h : I4 S) (e : ∀ k, ((8 ≤ k ∧ k < 24) ∨ (81 ≤ k ∧ k ≤ 85)) → S' k = S k) : I4 S' := by
  intro q hq
  rw [e (8 + 4 * q) (by omega), e 81 (by omega), e 82 (by omega), e 85 (by omega)]
  obtain ⟨a, b, c, d, f⟩ := h q hq
  exact ⟨a, b, c, fun z => JR_of (d z) (fun k hk => e k (by omega)), f⟩
theorem SR_of (h : SR S) (e : ∀ k, ((59 ≤ k ∧ k < 78) ∨ (95 ≤ k ∧ k ≤ 100)) → S' k = S k) (f : S' 78 21 = S 78 21 ∧ S' 78 23 = S 78 23 ∧ S' 78 24 = S 78 24) : SR S' := by
  obtain ⟨h1, h2, h3, h4⟩ := h
  unfold SR
  rw [f.1, f.2.1, f.2.2, e 59 (by omega), e 77 (by omega), e 95 (by omega), e 96 (by omega), e 97 (by omega), e 100 (by omega)]
  refine ⟨h1, h2, h3, fun z => ?_⟩
  obtain ⟨a, b, c, d, g⟩ := h4 z
  refine ⟨a, b, c, fun s hs => ?_, g⟩
  rw [e (61 + s) (by omega)]
  exact d s hs
theorem KNi_of {i : Nat} (h : KNi S i) (e : ∀ k, (88 ≤ k ∧ k ≤ 94) → S' k = S k) : KNi S' i := by
  unfold KNi KD KN at *
  rw [e 88 (by omega), e 89 (by omega), e 90 (by omega), e 91 (by omega), e 92 (by omega), e 93 (by omega), e 94 (by omega)]
  exact h
theorem PLC_of (h : PLC S) (e : ∀ k, (k = 31 ∨ k = 32) → S' k = S k) : PLC S' := by
  unfold PLC; rw [e 31 (by omega), e 32 (by omega)]; exact h
theorem I6_of (h : I6 S) (e : ∀ k, ((31 ≤ k ∧ k < 59) ∨ (88 ≤ k ∧ k ≤ 94)) → S' k = S k) : I6 S' :=
  ⟨PLC_of h.1 (fun k hk => e k (by omega)), fun i hi => ⟨SCi_of (h.2 i hi).1 (fun k hk => e k (by omega)), KNi_of (h.2 i hi).2 (fun k hk => e k (by omega))⟩⟩
theorem INV_of (h : INV S) (e : ∀ k, k ≠ 78 → S' k = S k) (f : ∀ q, q ≠ 0 → q ≠ 19 → q ≠ 20 → S' 78 q = S 78 q) : INV S' := by
  obtain ⟨a, b, c, d, g, i⟩ := h
  exact ⟨I1_of a (fun k hk => e k (by omega)), I2_of b (fun k hk => e k (by omega)), I3_of c (e 0 (by omega)) ⟨f 3 (by omega) (by omega) (by omega), f 4 (by omega) (by omega) (by omega)⟩, I4_of d (fun k hk => e k (by omega)), SR_of g (fun k hk => e k (by omega)) ⟨f 21 (by omega) (by omega) (by omega), f 23 (by omega) (by omega) (by omega), f 24 (by omega) (by omega) (by omega)⟩, I6_of i (fun k hk => e k (by omega))⟩
theorem INV_th (h : INV S) (c : Int) : INV (sup S 78 (jup (S 78) 0 c)) := INV_of h (fun k hk => sup_ne _ _ hk) (fun q a _ _ => by rw [sup_same, jup_ne _ _ a])
theorem INV_KG (h : INV S) (K : KG S S') : INV S' := by
  obtain ⟨a, b, c, d, g, i⟩ := h
  have e : ∀ k, k ≠ 78 → k < 91 ∨ 94 < k → S' k = S k := fun k h1 h2 => K.e (by omega)
  exact ⟨I1_of a (fun k hk => e k (by omega) (by omega)), I2_of b (fun k hk => e k (by omega) (by omega)), I3_of c (e 0 (by omega) (by omega)) ⟨K.2.1 3 (by omega) (by omega), K.2.1 4 (by omega) (by omega)⟩, I4_of d (fun k hk => e k (by omega) (by omega)), SR_of g (fun k hk => e k (by omega) (by omega)) ⟨K.2.1 21 (by omega) (by omega), K.2.1 23 (by omega) (by omega), K.2.1 24 (by omega) (by omega)⟩,
    PLC_of i.1 (fun k hk => e k (by omega) (by omega)), fun j hj => ⟨SCi_of (i.2 j hj).1 (fun k hk => e k (by omega) (by omega)), K.2.2 j hj (i.2 j hj).2⟩⟩
end IVS
/-- one call on both sides: the code of what was thrown, the answer, the heaps -/
def OPP (N : Nat) (h : xH) (L : Option xR) (Mf : xH → Option xR) (P : Int → Prop) : Prop := ∃ (k v : Int) (h1 h2 : xH) (Sa : Nat → Nat → Int) (Ta : Nat → Nat → Int64) (Sb : Nat → Nat → Int) (Tb : Nat → Nat → Int64), L = some (.inl (some (jI k)), h1) ∧ HP N h1 Sa Ta ∧ Mf h1 = some (.inl (some (jI v)), h2) ∧ HP N h2 Sb Tb ∧ INV Sb ∧ (Sb 78 0 = k ∧ (k = 0 → Tb 101 0 = Int32.toInt64 (Int32.ofInt v)) ∧ (0 ≤ k ∧ k ≤ 3) ∧ P v) ∧ (h1.2.1 ≤ h.2.1 + 1 ∧ h1.2.2 ≤ h.2.2 + 6) ∧ h2.2 = h1.2
def OPK (N : Nat) (h : xH) (L : Option xR) (Mf : xH → Option xR) : Prop := OPP N h L Mf (fun _ => True)
section OPS
variable {N : Nat} {h : xH} {S : Nat → Nat → Int} {T : Nat → Nat → Int64}
theorem op_exP {L : Option xR} {Mf : xH → Option xR} {P : Int → Prop} {c : Nat} {k : Int} (H : HP N h S T) (Q : INV S) (p0 : P 0) (k0 : 1 ≤ k ∧ k ≤ 3) (hL : L = some (.inl (some (jI k)), xnew h (xO' c []) 6)) (hM : ∀ h1, HP N h1 S T → Mf h1 = some (.inl (some (jI 0)), hth N h1 S T k)) : OPP N h L Mf P := by
  have H1 := H.new (xO' c []) 6
  refine ⟨k, 0, _, _, S, T, _, T, hL, H1, hM _ H1, H1.th k, INV_th Q k, ⟨by rw [sup_same, jup_same], fun e => by omega, by omega, p0⟩, ⟨Nat.le_refl _, Nat.le_refl _⟩, rfl⟩
theorem op_ex {L : Option xR} {Mf : xH → Option xR} {c : Nat} {k : Int} (H : HP N h S T) (Q : INV S) (k0 : 1 ≤ k ∧ k ≤ 3) (hL : L = some (.inl (some (jI k)), xnew h (xO' c []) 6)) (hM : ∀ h1, HP N h1 S T → Mf h1 = some (.inl (some (jI 0)), hth N h1 S T k)) : OPK N h L Mf := op_exP H Q trivial k0 hL hM
def outS (T : Nat → Nat → Int64) (x : Int64) : Nat → Nat → Int64 := supL T 101 (jupL (T 101) 0 x)
theorem op_okP {L : Option xR} {Mf : xH → Option xR} {P : Int → Prop} {v : Int} {h1 : xH} {Sa : Nat → Nat → Int} {Ta : Nat → Nat → Int64} (pv : P v) (H1 : HP N h1 Sa Ta) (hs : h1.2 = h.2) (hL : L = some (.inl (some (jI 0)), xset h1 (N + 101) (jL 1 (jupL (Ta 101) 0 (Int32.toInt64 (Int32.ofInt v)))))) (hM : ∀ (T' : Nat → Nat → Int64) (h' : xH), HP N h' Sa T' → ∃ (h2 : xH) (Sb : Nat → Nat → Int), Mf h' = some (.inl (some (jI v)), h2) ∧ HP N h2 Sb T' ∧ INV Sb ∧ Sb 78 0 = 0 ∧ h2.2 = h'.2) : OPP N h L Mf P := by
  have H2 := H1.putL (k := 101) (by omega) (jupL (Ta 101) 0 (Int32.toInt64 (Int32.ofInt v))) (e := jL 1 (jupL (Ta 101) 0 (Int32.toInt64 (Int32.ofInt v)))) rfl
  obtain ⟨h2, Sb, m1, m2, m3, m4, m5⟩ := hM _ _ H2
  refine ⟨0, v, _, h2, Sa, _, Sb, _, hL, H2, m1, m2, m3, ⟨m4, fun _ => ?_, by omega, pv⟩, ?_, m5⟩
  · rw [supL_same]; unfold jupL; rw [if_pos rfl]
  · show h1.2.1 ≤ _ ∧ h1.2.2 ≤ _
    rw [hs]; omega
theorem op_ok {L : Option xR} {Mf : xH → Option xR} {v : Int} {h1 : xH} {Sa : Nat → Nat → Int} {Ta : Nat → Nat → Int64} (H1 : HP N h1 Sa Ta) (hs : h1.2 = h.2) (hL : L = some (.inl (some (jI 0)), xset h1 (N + 101) (jL 1 (jupL (Ta 101) 0 (Int32.toInt64 (Int32.ofInt v)))))) (hM : ∀ (T' : Nat → Nat → Int64) (h' : xH), HP N h' Sa T' → ∃ (h2 : xH) (Sb : Nat → Nat → Int), Mf h' = some (.inl (some (jI v)), h2) ∧ HP N h2 Sb T' ∧ INV Sb ∧ Sb 78 0 = 0 ∧ h2.2 = h'.2) : OPK N h L Mf := op_okP trivial H1 hs hL hM
end OPS
