-- the abstract state: ints, and numbers in units of 1/256; what the class's and the reference's states are of it
abbrev EA : Type := (Nat → Nat → Int32) × (Nat → Nat → Int)
def lI (n : Int) : Int64 := Int64.ofInt n
def sg : Nat → Nat
  | 0 => 15
  | 1 => 4
  | 2 => 5
  | 3 => 0
  | 4 => 1
  | 5 => 2
  | 6 => 3
  | 7 => 6
  | 8 => 9
  | 9 => 8
  | 10 => 12
  | 11 => 14
  | n => n + 100
def ta : Nat → Nat := fun n => if n = 11 then 13 else n
def RC (S : SC) (E : EA) : Prop := (∀ c j : Nat, c < 14 → S.1 c j = E.1 c j) ∧ (∀ c j : Nat, c < 13 → S.2 c j = zq 8 (E.2 c j))
def RM (M : SR) (E : EA) : Prop := (∀ c j : Nat, c < 12 → M.1 c j = E.1 (sg c) j) ∧ (∀ c j : Nat, c < 13 → M.2 c j = lI (E.2 (ta c) j))
theorem lI_add (a b : Int) : lI a + lI b = lI (a + b) := (Int64.ofInt_add a b).symm
theorem lI_sub (a b : Int) : lI a - lI b = lI (a - b) := (Int64.ofInt_sub a b).symm
theorem lI_mul (a b : Int) : lI a * lI b = lI (a * b) := (Int64.ofInt_mul a b).symm
theorem lI_to {a : Int} (h : a.natAbs < 9007199254740992) : (lI a).toInt = a := Int64.toInt_ofInt_of_le (by omega) (by omega)
theorem lI_div {a b : Int} (ha : a.natAbs < 9007199254740992) (h0 : 0 ≤ a) (hb : 0 < b) (hb2 : b < 1000000) : lI a / lI b = lI (a / b) := by
  apply Int64.toInt_inj.mp
  rw [Int64.toInt_div, lI_to ha, lI_to (by omega)]
  have h1 : a.tdiv b = a / b := Int.tdiv_eq_ediv_of_nonneg h0
  have h2 : a / b ≤ a := Int.ediv_le_self _ h0
  have h3 : 0 ≤ a / b := Int.ediv_nonneg h0 (by omega)
  rw [h1, lI_to (by omega)]
  exact Int.bmod_eq_of_le (by omega) (by omega)
theorem zcv {k : Nat} {a b : Int} (op : CmpOp) (hk : k ≤ 900) (ha : a.natAbs < 9007199254740992) (hb : b.natAbs < 9007199254740992) : Op.cmpValue (Jvm.FP.dcmp (zq k a) (zq k b)) op = if a < b then -1 else if a = b then 0 else 1 := by
  rw [zq_cmp hk ha hb, Jvm.FP.Core.compare_ite]
  by_cases h1 : a < b
  · rw [if_pos h1, if_pos h1]; rfl
  · rw [if_neg h1, if_neg h1]
    by_cases h2 : a = b
    · rw [if_pos h2, if_pos h2]; rfl
    · rw [if_neg h2, if_neg h2]; rfl
theorem zi_le {a b : Int} : ((if a < b then (-1 : Int32) else if a = b then 0 else 1) ≤ 0) ↔ a ≤ b := by
  by_cases h1 : a < b
  · rw [if_pos h1]; exact ⟨fun _ => by omega, fun _ => by decide⟩
  · rw [if_neg h1]
    by_cases h2 : a = b
    · rw [if_pos h2]; exact ⟨fun _ => by omega, fun _ => by decide⟩
    · rw [if_neg h2]; exact ⟨fun h => absurd h (by decide), fun _ => by omega⟩
theorem zi_lt {a b : Int} : ((if a < b then (-1 : Int32) else if a = b then 0 else 1) < 0) ↔ a < b := by
  by_cases h1 : a < b
  · rw [if_pos h1]; exact ⟨fun _ => h1, fun _ => by decide⟩
  · rw [if_neg h1]
    by_cases h2 : a = b
    · rw [if_pos h2]; exact ⟨fun h => absurd h (by decide), fun _ => by omega⟩
    · rw [if_neg h2]; exact ⟨fun h => absurd h (by decide), fun _ => by omega⟩
theorem zi_ge {a b : Int} : (0 ≤ (if a < b then (-1 : Int32) else if a = b then 0 else 1)) ↔ b ≤ a := by
  by_cases h1 : a < b
  · rw [if_pos h1]; exact ⟨fun h => absurd h (by decide), fun _ => by omega⟩
  · rw [if_neg h1]
    by_cases h2 : a = b
    · rw [if_pos h2]; exact ⟨fun _ => by omega, fun _ => by decide⟩
    · rw [if_neg h2]; exact ⟨fun _ => by omega, fun _ => by decide⟩
theorem zi_gt {a b : Int} : (0 < (if a < b then (-1 : Int32) else if a = b then 0 else 1)) ↔ b < a := by
  by_cases h1 : a < b
  · rw [if_pos h1]; exact ⟨fun h => absurd h (by decide), fun _ => by omega⟩
  · rw [if_neg h1]
    by_cases h2 : a = b
    · rw [if_pos h2]; exact ⟨fun h => absurd h (by decide), fun _ => by omega⟩
    · rw [if_neg h2]; exact ⟨fun _ => by omega, fun _ => by decide⟩
theorem zi_eq {a b : Int} : ((if a < b then (-1 : Int32) else if a = b then 0 else 1) = 0) ↔ a = b := by
  by_cases h1 : a < b
  · rw [if_pos h1]; exact ⟨fun h => absurd h (by decide), fun _ => by omega⟩
  · rw [if_neg h1]
    by_cases h2 : a = b
    · rw [if_pos h2]; exact ⟨fun _ => h2, fun _ => rfl⟩
    · rw [if_neg h2]; exact ⟨fun h => absurd h (by decide), fun _ => absurd ‹a = b› h2⟩
theorem lcv {a b : Int} (ha : a.natAbs < 9007199254740992) (hb : b.natAbs < 9007199254740992) : lg_cmp (lI a) (lI b) = if a < b then -1 else if a = b then 0 else 1 := by
  unfold lg_cmp
  simp only [Int64.lt_iff_toInt_lt, ← Int64.toInt_inj, lI_to ha, lI_to hb]
  by_cases h1 : a < b
  · rw [if_pos h1]
    first | rw [if_pos h1] | (rw [if_neg (by omega), if_neg (by omega)])
  · rw [if_neg h1]
    by_cases h2 : a = b
    · simp [h2]
    · simp [h1, h2]; omega
theorem RC.pI {S : SC} {E : EA} (h : RC S E) (c j : Nat) (v : Int32) : RC (pI S c j v) (pI E c j v) := by
  refine ⟨fun c' j' hc => ?_, h.2⟩
  show va_up S.1 c (va_up (S.1 c) j v) c' j' = va_up E.1 c (va_up (E.1 c) j v) c' j'
  unfold va_up
  by_cases e : c' = c
  · subst e
    rw [if_pos rfl, if_pos rfl]
    by_cases e2 : j' = j
    · rw [if_pos e2, if_pos e2]
    · rw [if_neg e2, if_neg e2]; exact h.1 _ _ hc
  · rw [if_neg e, if_neg e]; exact h.1 _ _ hc
theorem RC.pV {S : SC} {E : EA} (h : RC S E) (c j : Nat) (n : Int) : RC (pV S c j (zq 8 n)) (pV E c j n) := by
  refine ⟨h.1, fun c' j' hc => ?_⟩
  show va_up S.2 c (va_up (S.2 c) j (zq 8 n)) c' j' = zq 8 (va_up E.2 c (va_up (E.2 c) j n) c' j')
  unfold va_up
  by_cases e : c' = c
  · subst e
    rw [if_pos rfl, if_pos rfl]
    by_cases e2 : j' = j
    · rw [if_pos e2, if_pos e2]
    · rw [if_neg e2, if_neg e2]; exact h.2 _ _ hc
  · rw [if_neg e, if_neg e]; exact h.2 _ _ hc
theorem sg_inj {a b : Nat} (ha : a < 12) (hb : b < 12) (h : sg a = sg b) : a = b := by
  rcases (show a = 0 ∨ a = 1 ∨ a = 2 ∨ a = 3 ∨ a = 4 ∨ a = 5 ∨ a = 6 ∨ a = 7 ∨ a = 8 ∨ a = 9 ∨ a = 10 ∨ a = 11 by omega) with rfl | rfl | rfl | rfl | rfl | rfl | rfl | rfl | rfl | rfl | rfl | rfl <;>
  rcases (show b = 0 ∨ b = 1 ∨ b = 2 ∨ b = 3 ∨ b = 4 ∨ b = 5 ∨ b = 6 ∨ b = 7 ∨ b = 8 ∨ b = 9 ∨ b = 10 ∨ b = 11 by omega) with rfl | rfl | rfl | rfl | rfl | rfl | rfl | rfl | rfl | rfl | rfl | rfl <;> first | rfl | (exact absurd h (by decide))
theorem RM.pI {M : SR} {E : EA} (h : RM M E) (c j : Nat) (v : Int32) (hc0 : c < 12) : RM (pI M c j v) (pI E (sg c) j v) := by
  refine ⟨fun c' j' hc => ?_, h.2⟩
  show va_up M.1 c (va_up (M.1 c) j v) c' j' = va_up E.1 (sg c) (va_up (E.1 (sg c)) j v) (sg c') j'
  unfold va_up
  by_cases e : c' = c
  · subst e
    rw [if_pos rfl, if_pos rfl]
    by_cases e2 : j' = j
    · rw [if_pos e2, if_pos e2]
    · rw [if_neg e2, if_neg e2]; exact h.1 _ _ hc
  · rw [if_neg e, if_neg (fun q => e (sg_inj hc hc0 q))]; exact h.1 _ _ hc
theorem RM.pV {M : SR} {E : EA} (h : RM M E) (c j : Nat) (n : Int) (hc0 : c < 13) : RM (pV M c j (lI n)) (pV E (ta c) j n) := by
  refine ⟨h.1, fun c' j' hc => ?_⟩
  show va_up M.2 c (va_up (M.2 c) j (lI n)) c' j' = lI (va_up E.2 (ta c) (va_up (E.2 (ta c)) j n) (ta c') j')
  unfold va_up
  by_cases e : c' = c
  · subst e
    rw [if_pos rfl, if_pos rfl]
    by_cases e2 : j' = j
    · rw [if_pos e2, if_pos e2]
    · rw [if_neg e2, if_neg e2]; exact h.2 _ _ hc
  · rw [if_neg e, if_neg (fun q => e (by unfold ta at q; split at q <;> split at q <;> omega))]; exact h.2 _ _ hc
