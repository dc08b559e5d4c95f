/-! THE PLAIN HEAP: how many cells there are; kinds and lengths by address (0, 1, 2 .. as they are made); ints, longs and references by (key, address, place). A key is a field of a class (1000 + 64 * class + field) or a kind of array. Kind 0: nothing there; 1 .. 999 an array; 1000 + c an object of class c. A reference of 1000000 + k is the k-th of what stands from the start. -/
abbrev x_M (α : Type) : Type := Nat → Nat → Nat → α
abbrev x_H : Type := Nat × (Nat → Nat × Nat) × x_M Int32 × x_M Int64 × x_M (Option Nat)
def x_at {α : Type} (f : x_M α) (k a i : Nat) (v : α) : x_M α := fun k' a' i' => bif Nat.beq k' k && (Nat.beq a' a && Nat.beq i' i) then v else f k' a' i'
def x_uI (h : x_H) (k a i : Nat) (v : Int32) : x_H := (h.1, h.2.1, x_at h.2.2.1 k a i v, h.2.2.2.1, h.2.2.2.2)
def x_uL (h : x_H) (k a i : Nat) (v : Int64) : x_H := (h.1, h.2.1, h.2.2.1, x_at h.2.2.2.1 k a i v, h.2.2.2.2)
def x_uR (h : x_H) (k a i : Nat) (v : Option Nat) : x_H := (h.1, h.2.1, h.2.2.1, h.2.2.2.1, x_at h.2.2.2.2 k a i v)
def x_new (h : x_H) (kind len : Nat) : x_H := (h.1 + 1, fun a' => bif Nat.beq a' h.1 then (kind, len) else h.2.1 a', h.2.2)
/-- a stretch of an array copied -/
def x_cp {α : Type} (f : x_M α) (k sa sp da dp n : Nat) : x_M α := fun k' a' i' => bif Nat.beq k' k && (Nat.beq a' da && (Nat.ble dp i' && Nat.blt i' (dp + n))) then f k sa (sp + (i' - dp)) else f k' a' i'
def x_cI (h : x_H) (k sa sp da dp n : Nat) : x_H := (h.1, h.2.1, x_cp h.2.2.1 k sa sp da dp n, h.2.2.2.1, h.2.2.2.2)
theorem x_beq {a b : Nat} : Nat.beq a b = decide (a = b) := by
  cases hb : Nat.beq a b with
  | true => rw [decide_eq_true (Nat.eq_of_beq_eq_true hb)]
  | false => rw [decide_eq_false (Nat.ne_of_beq_eq_false hb)]
theorem x_at_eq {α : Type} (f : x_M α) (k a i k' a' i' : Nat) (v : α) : x_at f k a i v k' a' i' = if k' = k ∧ a' = a ∧ i' = i then v else f k' a' i' := by
  unfold x_at
  rw [x_beq, x_beq, x_beq]
  by_cases h1 : k' = k <;> by_cases h2 : a' = a <;> by_cases h3 : i' = i <;> simp [h1, h2, h3]
theorem x_cp_eq {α : Type} (f : x_M α) (k sa sp da dp n k' a' i' : Nat) : x_cp f k sa sp da dp n k' a' i' = if k' = k ∧ a' = da ∧ dp ≤ i' ∧ i' < dp + n then f k sa (sp + (i' - dp)) else f k' a' i' := by
  unfold x_cp
  rw [x_beq, x_beq]
  have e1 : Nat.ble dp i' = decide (dp ≤ i') := by
    by_cases h : dp ≤ i'
    · rw [Nat.ble_eq_true_of_le h, decide_eq_true h]
    · rw [decide_eq_false h]
      cases hb : Nat.ble dp i' with
      | false => rfl
      | true => exact absurd (Nat.le_of_ble_eq_true hb) h
  have e2 : Nat.blt i' (dp + n) = decide (i' < dp + n) := by
    by_cases h : i' < dp + n
    · rw [decide_eq_true h]; exact Nat.ble_eq_true_of_le h
    · rw [decide_eq_false h]
      cases hb : Nat.blt i' (dp + n) with
      | false => rfl
      | true => exact absurd (Nat.le_of_ble_eq_true hb) h
  rw [e1, e2]
  by_cases h1 : k' = k <;> by_cases h2 : a' = da <;> by_cases h3 : dp ≤ i' <;> by_cases h4 : i' < dp + n <;> simp [h1, h2, h3, h4]
theorem x_new_kd (h : x_H) (kind len a' : Nat) : (x_new h kind len).2.1 a' = if a' = h.1 then (kind, len) else h.2.1 a' := by
  show (bif Nat.beq a' h.1 then (kind, len) else h.2.1 a') = _
  rw [x_beq]
  by_cases h2 : a' = h.1 <;> simp [h2]
/-! locals, and what the machine's predicate speaks of -/
abbrev x_L : Type := Nat → Option Value
abbrev x_Q : Type := Option Value → x_H → Prop
abbrev x_Pr : Type := Nat → Nat → Nat → x_L → List Value → x_H → Nat → Nat → x_Q → Prop
/-- the script: its length, its ints; a static of the JDK's of which nothing is known but that it is null or a reference -/
abbrev x_E : Type := Nat × (Nat → Int32) × Value
def iI (z : Int) : Int32 := Int32.ofInt z
def lI (z : Int) : Int64 := Int64.ofInt z
def x_ls (l : List (Option Value)) : x_L := fun i => (l[i]?).getD none
def x_is2 (o : Option Value) : Bool := match o with
  | some (.long _) => true
  | some (.double _) => true
  | _ => false
def x_st1 (L : x_L) (i : Nat) (v : Value) : x_L := fun j => bif Nat.beq j i then some v else bif Nat.beq (j + 1) i && x_is2 (L j) then none else L j
def x_st2 (L : x_L) (i : Nat) (v : Value) : x_L := fun j => bif Nat.beq j i then some v else bif Nat.beq j (i + 1) || (Nat.beq (j + 1) i && x_is2 (L j)) then none else L j
def x_la : Nat → List Value → x_L
  | _, [] => fun _ => none
  | i, v :: vs => fun j => bif Nat.beq j i then some v else x_la (bif x_is2 (some v) then i + 2 else i + 1) vs j
def x_wd : List Value → Nat
  | [] => 0
  | v :: vs => (bif x_is2 (some v) then 2 else 1) + x_wd vs
/-- the values told of hold in other locals -/
def x_ag (L : x_L) : Nat → List (Option Value) → Prop
  | _, [] => True
  | i, none :: r => x_ag L (i + 1) r
  | i, some v :: r => L i = some v ∧ x_ag L (i + 1) r
theorem x_ag_ls {L : x_L} : ∀ (l : List (Option Value)) (i : Nat), x_ag L i l → ∀ (j : Nat) (v : Value), (l[j]?).getD none = some v → L (i + j) = some v
  | [], i, _, j, v, hv => by simp at hv
  | none :: r, i, hg, 0, v, hv => by simp at hv
  | none :: r, i, hg, j + 1, v, hv => by
    have := x_ag_ls r (i + 1) hg j v (by simpa using hv)
    rw [show i + (j + 1) = i + 1 + j by omega]
    exact this
  | some w :: r, i, hg, 0, v, hv => by
    have : w = v := by simpa using hv
    rw [← this]
    exact hg.1
  | some w :: r, i, hg, j + 1, v, hv => by
    have := x_ag_ls r (i + 1) hg.2 j v (by simpa using hv)
    rw [show i + (j + 1) = i + 1 + j by omega]
    exact this
theorem x_cat2 (v : Value) : x_is2 (some v) = (v.category == 2) := by cases v <;> rfl
theorem x_and {a b : Bool} (h : (a && b) = true) : a = true ∧ b = true := by cases a <;> cases b <;> simp_all
theorem x_or {a b : Bool} (h : (a || b) = true) : a = true ∨ b = true := by cases a <;> cases b <;> simp_all
/-- a method's code: place to instruction, place behind it, and what its links are -/
abbrev x_I : Type := Instr × Nat × Nat × Nat × Nat × Nat × Int32 × Int64
