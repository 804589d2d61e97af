/-- the class's state: the three texts (text, row, place), and the other cells (cell, place) -/
abbrev CS : Type := (Nat → Nat → Nat → Int32) × (Nat → Nat → Int32)
/-- where the cells lie: the fixed ones, the texts' ones; the classes of int[] and of ModuleText[] -/
abbrev GP : Type := (Nat → Nat) × (Nat → Nat → Nat) × ClassId × ClassId
abbrev aA (G : GP) (c : Nat) : Nat := G.1 c
abbrev tA (G : GP) (k j : Nat) : Nat := G.2.1 k j
def stR (S : CS) (c i : Nat) (v : Int32) : CS := (S.1, va_up S.2 c (upd (S.2 c) i v))
def stT (S : CS) (k j i : Nat) (v : Int32) : CS := (va_up S.1 k (va_up (S.1 k) j (upd (S.1 k j) i v)), S.2)
def hm (G : GP) (n : Nat) : Option Nat := match n with
  | 0 => none
  | n + 1 => some (tA G n 0)
def hc (x : Int32) : Nat := x.toNatClampNeg
def mods (G : GP) : Nat → Option Nat := va_up (va_up (va_up (fun _ => none) 0 (some (tA G 0 0))) 1 (some (tA G 1 0))) 2 (some (tA G 2 0))
def bl (x : Int32) : Prop := x = 0 ∨ x = 1
/-- a number that no unfolding sees -/
noncomputable def fz (n : Nat) : Nat := Classical.choose (⟨n, rfl⟩ : ∃ x : Nat, x = n)
theorem fz_eq (n : Nat) : fz n = n := Classical.choose_spec (⟨n, rfl⟩ : ∃ x : Nat, x = n)
theorem bl_nar {v : Int32} (h : bl v) : narrow .boolean (.int v) = .int v := by rcases h with rfl | rfl <;> rfl
theorem bl_fit {v : Int32} (h : bl v) : fits .boolean (.int v) = true := by rcases h with rfl | rfl <;> rfl
abbrev fR0 (G : GP) (S : CS) : List Value := [.ref (aA G 1), .ref (aA G 2), .ref (aA G 4), .ref (aA G 7), .ref (aA G 9), .int (S.2 0 5)]
abbrev fR2 (G : GP) (S : CS) : List Value := [.ref (aA G 3), .int (S.2 2 1), .int (S.2 2 2), .int (S.2 2 3), .int (S.2 2 4), .int (S.2 2 5), .int (S.2 2 6), .int (S.2 2 7)]
abbrev fR4 (G : GP) (S : CS) : List Value := [.ref (aA G 5), .ref (aA G 6), .int (S.2 4 2)]
abbrev fR7 (G : GP) (S : CS) : List Value := [.ref (aA G 8), .int (S.2 7 1)]
abbrev fR9 (G : GP) (S : CS) : List Value := [.ref (aA G 10), .ref (aA G 11), .ref (aA G 12), .int (S.2 9 3), .int (S.2 9 4)]
abbrev fT (G : GP) (S : CS) (k : Nat) : List Value := [.ref (tA G k 1), .ref (tA G k 2), .ref (tA G k 3), .ref (tA G k 4), .ref (tA G k 5), .ref (tA G k 6), .int (S.1 k 0 6), .int (S.1 k 0 7), .int (S.1 k 0 8), .int (S.1 k 0 9)]
/-- the cells -/
def wC (G : GP) (S : CS) : va_W := [
  (aA G 0, .inr (0, fR0 G S)),
  (aA G 1, .inl (G.2.2.2, 3, .inr (.inr (.inr (.inr (mods G)))))),
  (aA G 2, .inr (2, fR2 G S)),
  (aA G 3, .inl (G.2.2.1, 6, .inl (S.2 3))),
  (aA G 4, .inr (3, fR4 G S)),
  (aA G 5, .inl (G.2.2.2, 26, .inr (.inr (.inr (.inr (fun j => hm G (hc (S.2 5 j)))))))),
  (aA G 6, .inl (G.2.2.1, 26, .inl (S.2 6))),
  (aA G 7, .inr (4, fR7 G S)),
  (aA G 8, .inl (G.2.2.1, 8, .inl (S.2 8))),
  (aA G 9, .inr (5, fR9 G S)),
  (aA G 10, .inl (G.2.2.1, 26, .inl (S.2 10))),
  (aA G 11, .inl (G.2.2.1, 26, .inl (S.2 11))),
  (aA G 12, .inl (G.2.2.1, 24, .inl (S.2 12))),
  (tA G 0 0, .inr (1, fT G S 0)),
  (tA G 0 1, .inl (G.2.2.1, 60, .inl (S.1 0 1))),
  (tA G 0 2, .inl (G.2.2.1, 60, .inl (S.1 0 2))),
  (tA G 0 3, .inl (G.2.2.1, 60, .inl (S.1 0 3))),
  (tA G 0 4, .inl (G.2.2.1, 60, .inl (S.1 0 4))),
  (tA G 0 5, .inl (G.2.2.1, 26, .inl (S.1 0 5))),
  (tA G 0 6, .inl (G.2.2.1, 26, .inl (S.1 0 6))),
  (tA G 1 0, .inr (1, fT G S 1)),
  (tA G 1 1, .inl (G.2.2.1, 60, .inl (S.1 1 1))),
  (tA G 1 2, .inl (G.2.2.1, 60, .inl (S.1 1 2))),
  (tA G 1 3, .inl (G.2.2.1, 60, .inl (S.1 1 3))),
  (tA G 1 4, .inl (G.2.2.1, 60, .inl (S.1 1 4))),
  (tA G 1 5, .inl (G.2.2.1, 26, .inl (S.1 1 5))),
  (tA G 1 6, .inl (G.2.2.1, 26, .inl (S.1 1 6))),
  (tA G 2 0, .inr (1, fT G S 2)),
  (tA G 2 1, .inl (G.2.2.1, 60, .inl (S.1 2 1))),
  (tA G 2 2, .inl (G.2.2.1, 60, .inl (S.1 2 2))),
  (tA G 2 3, .inl (G.2.2.1, 60, .inl (S.1 2 3))),
  (tA G 2 4, .inl (G.2.2.1, 60, .inl (S.1 2 4))),
  (tA G 2 5, .inl (G.2.2.1, 26, .inl (S.1 2 5))),
  (tA G 2 6, .inl (G.2.2.1, 26, .inl (S.1 2 6)))]
def tyC (G : GP) : List (ClassId × FieldType) := [(G.2.2.1, .int), (G.2.2.2, .object "GateStack$ModuleText")]
theorem w_0 (G : GP) (S : CS) : (wC G S)[0]? = some (aA G 0, .inr (0, fR0 G S)) := rfl
theorem w_1 (G : GP) (S : CS) : (wC G S)[1]? = some (aA G 1, .inl (G.2.2.2, 3, .inr (.inr (.inr (.inr (mods G)))))) := rfl
theorem w_2 (G : GP) (S : CS) : (wC G S)[2]? = some (aA G 2, .inr (2, fR2 G S)) := rfl
theorem w_3 (G : GP) (S : CS) : (wC G S)[3]? = some (aA G 3, .inl (G.2.2.1, 6, .inl (S.2 3))) := rfl
theorem w_4 (G : GP) (S : CS) : (wC G S)[4]? = some (aA G 4, .inr (3, fR4 G S)) := rfl
theorem w_5 (G : GP) (S : CS) : (wC G S)[5]? = some (aA G 5, .inl (G.2.2.2, 26, .inr (.inr (.inr (.inr (fun j => hm G (hc (S.2 5 j)))))))) := rfl
theorem w_6 (G : GP) (S : CS) : (wC G S)[6]? = some (aA G 6, .inl (G.2.2.1, 26, .inl (S.2 6))) := rfl
theorem w_7 (G : GP) (S : CS) : (wC G S)[7]? = some (aA G 7, .inr (4, fR7 G S)) := rfl
theorem w_8 (G : GP) (S : CS) : (wC G S)[8]? = some (aA G 8, .inl (G.2.2.1, 8, .inl (S.2 8))) := rfl
theorem w_9 (G : GP) (S : CS) : (wC G S)[9]? = some (aA G 9, .inr (5, fR9 G S)) := rfl
theorem w_10 (G : GP) (S : CS) : (wC G S)[10]? = some (aA G 10, .inl (G.2.2.1, 26, .inl (S.2 10))) := rfl
theorem w_11 (G : GP) (S : CS) : (wC G S)[11]? = some (aA G 11, .inl (G.2.2.1, 26, .inl (S.2 11))) := rfl
theorem w_12 (G : GP) (S : CS) : (wC G S)[12]? = some (aA G 12, .inl (G.2.2.1, 24, .inl (S.2 12))) := rfl
theorem wt_0 (G : GP) (S : CS) {k : Nat} (hk : k < 3) : (wC G S)[13 + 7 * k]? = some (tA G k 0, .inr (1, fT G S k)) := by
  match k, hk with
  | 0, _ => rfl
  | 1, _ => rfl
  | 2, _ => rfl
theorem wt_1 (G : GP) (S : CS) {k : Nat} (hk : k < 3) : (wC G S)[13 + 7 * k + 1]? = some (tA G k 1, .inl (G.2.2.1, 60, .inl (S.1 k 1))) := by
  match k, hk with
  | 0, _ => rfl
  | 1, _ => rfl
  | 2, _ => rfl
theorem wt_2 (G : GP) (S : CS) {k : Nat} (hk : k < 3) : (wC G S)[13 + 7 * k + 2]? = some (tA G k 2, .inl (G.2.2.1, 60, .inl (S.1 k 2))) := by
  match k, hk with
  | 0, _ => rfl
  | 1, _ => rfl
  | 2, _ => rfl
theorem wt_3 (G : GP) (S : CS) {k : Nat} (hk : k < 3) : (wC G S)[13 + 7 * k + 3]? = some (tA G k 3, .inl (G.2.2.1, 60, .inl (S.1 k 3))) := by
  match k, hk with
  | 0, _ => rfl
  | 1, _ => rfl
  | 2, _ => rfl
theorem wt_4 (G : GP) (S : CS) {k : Nat} (hk : k < 3) : (wC G S)[13 + 7 * k + 4]? = some (tA G k 4, .inl (G.2.2.1, 60, .inl (S.1 k 4))) := by
  match k, hk with
  | 0, _ => rfl
  | 1, _ => rfl
  | 2, _ => rfl
theorem wt_5 (G : GP) (S : CS) {k : Nat} (hk : k < 3) : (wC G S)[13 + 7 * k + 5]? = some (tA G k 5, .inl (G.2.2.1, 26, .inl (S.1 k 5))) := by
  match k, hk with
  | 0, _ => rfl
  | 1, _ => rfl
  | 2, _ => rfl
theorem wt_6 (G : GP) (S : CS) {k : Nat} (hk : k < 3) : (wC G S)[13 + 7 * k + 6]? = some (tA G k 6, .inl (G.2.2.1, 26, .inl (S.1 k 6))) := by
  match k, hk with
  | 0, _ => rfl
  | 1, _ => rfl
  | 2, _ => rfl
theorem wst_0_5 (G : GP) (S : CS) (v : Int32) : (wC G S).set 0 (aA G 0, .inr (0, (fR0 G S).set 5 (.int v))) = wC G (stR S 0 5 v) := rfl
theorem wst_2_1 (G : GP) (S : CS) (v : Int32) : (wC G S).set 2 (aA G 2, .inr (2, (fR2 G S).set 1 (.int v))) = wC G (stR S 2 1 v) := rfl
theorem wst_2_2 (G : GP) (S : CS) (v : Int32) : (wC G S).set 2 (aA G 2, .inr (2, (fR2 G S).set 2 (.int v))) = wC G (stR S 2 2 v) := rfl
theorem wst_2_3 (G : GP) (S : CS) (v : Int32) : (wC G S).set 2 (aA G 2, .inr (2, (fR2 G S).set 3 (.int v))) = wC G (stR S 2 3 v) := rfl
theorem wst_2_4 (G : GP) (S : CS) (v : Int32) : (wC G S).set 2 (aA G 2, .inr (2, (fR2 G S).set 4 (.int v))) = wC G (stR S 2 4 v) := rfl
theorem wst_2_5 (G : GP) (S : CS) (v : Int32) : (wC G S).set 2 (aA G 2, .inr (2, (fR2 G S).set 5 (.int v))) = wC G (stR S 2 5 v) := rfl
theorem wst_2_6 (G : GP) (S : CS) (v : Int32) : (wC G S).set 2 (aA G 2, .inr (2, (fR2 G S).set 6 (.int v))) = wC G (stR S 2 6 v) := rfl
theorem wst_2_7 (G : GP) (S : CS) (v : Int32) : (wC G S).set 2 (aA G 2, .inr (2, (fR2 G S).set 7 (.int v))) = wC G (stR S 2 7 v) := rfl
theorem wst_4_2 (G : GP) (S : CS) (v : Int32) : (wC G S).set 4 (aA G 4, .inr (3, (fR4 G S).set 2 (.int v))) = wC G (stR S 4 2 v) := rfl
theorem wst_7_1 (G : GP) (S : CS) (v : Int32) : (wC G S).set 7 (aA G 7, .inr (4, (fR7 G S).set 1 (.int v))) = wC G (stR S 7 1 v) := rfl
theorem wst_9_3 (G : GP) (S : CS) (v : Int32) : (wC G S).set 9 (aA G 9, .inr (5, (fR9 G S).set 3 (.int v))) = wC G (stR S 9 3 v) := rfl
theorem wst_9_4 (G : GP) (S : CS) (v : Int32) : (wC G S).set 9 (aA G 9, .inr (5, (fR9 G S).set 4 (.int v))) = wC G (stR S 9 4 v) := rfl
theorem wsta_3 (G : GP) (S : CS) (i : Nat) (v : Int32) : (wC G S).set 3 (aA G 3, .inl (G.2.2.1, 6, .inl (upd (S.2 3) i v))) = wC G (stR S 3 i v) := rfl
theorem wsta_6 (G : GP) (S : CS) (i : Nat) (v : Int32) : (wC G S).set 6 (aA G 6, .inl (G.2.2.1, 26, .inl (upd (S.2 6) i v))) = wC G (stR S 6 i v) := rfl
theorem wsta_8 (G : GP) (S : CS) (i : Nat) (v : Int32) : (wC G S).set 8 (aA G 8, .inl (G.2.2.1, 8, .inl (upd (S.2 8) i v))) = wC G (stR S 8 i v) := rfl
theorem wsta_10 (G : GP) (S : CS) (i : Nat) (v : Int32) : (wC G S).set 10 (aA G 10, .inl (G.2.2.1, 26, .inl (upd (S.2 10) i v))) = wC G (stR S 10 i v) := rfl
theorem wsta_11 (G : GP) (S : CS) (i : Nat) (v : Int32) : (wC G S).set 11 (aA G 11, .inl (G.2.2.1, 26, .inl (upd (S.2 11) i v))) = wC G (stR S 11 i v) := rfl
theorem wsta_12 (G : GP) (S : CS) (i : Nat) (v : Int32) : (wC G S).set 12 (aA G 12, .inl (G.2.2.1, 24, .inl (upd (S.2 12) i v))) = wC G (stR S 12 i v) := rfl
theorem hm_up (G : GP) (S : CS) (i n : Nat) (v : Int32) (hv : hc v = n) : va_up (fun j => hm G (hc (S.2 5 j))) i (hm G n) = (fun j => hm G (hc (upd (S.2 5) i v j))) := by
  funext j
  by_cases h : j = i
  · subst h; simp [va_up, upd, hv]
  · simp [va_up, upd, h]
theorem wst_5N (G : GP) (S : CS) (i : Nat) : (wC G S).set 5 (aA G 5, .inl (G.2.2.2, 26, .inr (.inr (.inr (.inr (va_up (fun j => hm G (hc (S.2 5 j))) i none)))))) = wC G (stR S 5 i 0) := by
  have h := hm_up G S i 0 0 rfl
  have h : va_up (fun j => hm G (hc (S.2 5 j))) i none = (fun j => hm G (hc (upd (S.2 5) i 0 j))) := h
  rw [h]
  rfl
theorem wst_5Q (G : GP) (S : CS) (i : Nat) {k : Nat} (hk : k < 3) : (wC G S).set 5 (aA G 5, .inl (G.2.2.2, 26, .inr (.inr (.inr (.inr (va_up (fun j => hm G (hc (S.2 5 j))) i (some (tA G k 0)))))))) = wC G (stR S 5 i (nI (k + 1))) := by
  have h := hm_up G S i (k + 1) (nI (k + 1)) (nI_clamp (by omega))
  have h : va_up (fun j => hm G (hc (S.2 5 j))) i (some (tA G k 0)) = (fun j => hm G (hc (upd (S.2 5) i (nI (k + 1)) j))) := h
  rw [h]
  rfl
theorem wstt_6 (G : GP) (S : CS) (v : Int32) {k : Nat} (hk : k < 3) : (wC G S).set (13 + 7 * k) (tA G k 0, .inr (1, (fT G S k).set 6 (.int v))) = wC G (stT S k 0 6 v) := by
  match k, hk with
  | 0, _ => rfl
  | 1, _ => rfl
  | 2, _ => rfl
theorem wstt_7 (G : GP) (S : CS) (v : Int32) {k : Nat} (hk : k < 3) : (wC G S).set (13 + 7 * k) (tA G k 0, .inr (1, (fT G S k).set 7 (.int v))) = wC G (stT S k 0 7 v) := by
  match k, hk with
  | 0, _ => rfl
  | 1, _ => rfl
  | 2, _ => rfl
theorem wstt_8 (G : GP) (S : CS) (v : Int32) {k : Nat} (hk : k < 3) : (wC G S).set (13 + 7 * k) (tA G k 0, .inr (1, (fT G S k).set 8 (.int v))) = wC G (stT S k 0 8 v) := by
  match k, hk with
  | 0, _ => rfl
  | 1, _ => rfl
  | 2, _ => rfl
theorem wstt_9 (G : GP) (S : CS) (v : Int32) {k : Nat} (hk : k < 3) : (wC G S).set (13 + 7 * k) (tA G k 0, .inr (1, (fT G S k).set 9 (.int v))) = wC G (stT S k 0 9 v) := by
  match k, hk with
  | 0, _ => rfl
  | 1, _ => rfl
  | 2, _ => rfl
theorem wstt_a1 (G : GP) (S : CS) (i : Nat) (v : Int32) {k : Nat} (hk : k < 3) : (wC G S).set (13 + 7 * k + 1) (tA G k 1, .inl (G.2.2.1, 60, .inl (upd (S.1 k 1) i v))) = wC G (stT S k 1 i v) := by
  match k, hk with
  | 0, _ => rfl
  | 1, _ => rfl
  | 2, _ => rfl
theorem wstt_a2 (G : GP) (S : CS) (i : Nat) (v : Int32) {k : Nat} (hk : k < 3) : (wC G S).set (13 + 7 * k + 2) (tA G k 2, .inl (G.2.2.1, 60, .inl (upd (S.1 k 2) i v))) = wC G (stT S k 2 i v) := by
  match k, hk with
  | 0, _ => rfl
  | 1, _ => rfl
  | 2, _ => rfl
theorem wstt_a3 (G : GP) (S : CS) (i : Nat) (v : Int32) {k : Nat} (hk : k < 3) : (wC G S).set (13 + 7 * k + 3) (tA G k 3, .inl (G.2.2.1, 60, .inl (upd (S.1 k 3) i v))) = wC G (stT S k 3 i v) := by
  match k, hk with
  | 0, _ => rfl
  | 1, _ => rfl
  | 2, _ => rfl
theorem wstt_a4 (G : GP) (S : CS) (i : Nat) (v : Int32) {k : Nat} (hk : k < 3) : (wC G S).set (13 + 7 * k + 4) (tA G k 4, .inl (G.2.2.1, 60, .inl (upd (S.1 k 4) i v))) = wC G (stT S k 4 i v) := by
  match k, hk with
  | 0, _ => rfl
  | 1, _ => rfl
  | 2, _ => rfl
theorem wstt_a5 (G : GP) (S : CS) (i : Nat) (v : Int32) {k : Nat} (hk : k < 3) : (wC G S).set (13 + 7 * k + 5) (tA G k 5, .inl (G.2.2.1, 26, .inl (upd (S.1 k 5) i v))) = wC G (stT S k 5 i v) := by
  match k, hk with
  | 0, _ => rfl
  | 1, _ => rfl
  | 2, _ => rfl
theorem wstt_a6 (G : GP) (S : CS) (i : Nat) (v : Int32) {k : Nat} (hk : k < 3) : (wC G S).set (13 + 7 * k + 6) (tA G k 6, .inl (G.2.2.1, 26, .inl (upd (S.1 k 6) i v))) = wC G (stT S k 6 i v) := by
  match k, hk with
  | 0, _ => rfl
  | 1, _ => rfl
  | 2, _ => rfl
theorem mods_at (G : GP) {k : Nat} (hk : k < 3) : mods G k = some (tA G k 0) := by
  match k, hk with
  | 0, _ => rfl
  | 1, _ => rfl
  | 2, _ => rfl
theorem stT_o {S : CS} {k j i k' j' : Nat} {v : Int32} (h : j' ≠ j) : (stT S k j i v).1 k' j' = S.1 k' j' := by
  unfold stT va_up
  by_cases hk : k' = k
  · subst hk; simp [h]
  · simp [hk]
theorem stT_k {S : CS} {k j i k' : Nat} {v : Int32} (h : k' ≠ k) : (stT S k j i v).1 k' = S.1 k' := by
  unfold stT va_up
  simp [h]
theorem stT_s {S : CS} {k j i : Nat} {v : Int32} : (stT S k j i v).1 k j = upd (S.1 k j) i v := by
  unfold stT va_up
  simp
theorem stR_o {S : CS} {c i c' : Nat} {v : Int32} (h : c' ≠ c) : (stR S c i v).2 c' = S.2 c' := by
  unfold stR va_up
  simp [h]
theorem stR_s {S : CS} {c i : Nat} {v : Int32} : (stR S c i v).2 c = upd (S.2 c) i v := by
  unfold stR va_up
  simp
theorem upd_o {f : Nat → Int32} {i j : Nat} {v : Int32} (h : j ≠ i) : upd f i v j = f j := by simp [upd, h]
theorem upd_s {f : Nat → Int32} {i : Nat} {v : Int32} : upd f i v i = v := by simp [upd]
/-- what always holds of the state -/
def IC (N : Nat) (S : CS) : Prop := (∀ k, k < 3 → 0 ≤ (S.1 k 0 6).toInt ∧ (S.1 k 0 6).toInt ≤ 60 ∧ bl (S.1 k 0 8) ∧ bl (S.1 k 0 9)) ∧ (0 ≤ (S.2 2 1).toInt ∧ (S.2 2 1).toInt ≤ 6) ∧ (∀ j, hc (S.2 5 j) ≤ 3) ∧ (0 ≤ (S.2 9 3).toInt ∧ (S.2 9 3).toInt ≤ 26) ∧ (0 ≤ (S.2 9 4).toInt ∧ (S.2 9 4).toInt ≤ (N : Int))
theorem IC_mono {N M : Nat} {S : CS} (h : IC N S) (hM : N ≤ M) : IC M S := ⟨h.1, h.2.1, h.2.2.1, h.2.2.2.1, h.2.2.2.2.1, Int.le_trans h.2.2.2.2.2 (by omega)⟩
def okc (c i : Nat) : Bool := !(c == 5) && !(c == 2 && i == 1) && !(c == 9 && (i == 3 || i == 4))
theorem IC_R {N : Nat} {S : CS} (h : IC N S) (c i : Nat) (v : Int32) (hc : okc c i = true) : IC N (stR S c i v) := by
  have h5 : (5 : Nat) ≠ c := by intro q; subst q; simp [okc] at hc
  have h2 : (stR S c i v).2 2 1 = S.2 2 1 := by
    by_cases q : 2 = c
    · subst q; rw [stR_s, upd_o]; intro q; subst q; simp [okc] at hc
    · rw [stR_o q]
  have h3 : (stR S c i v).2 9 3 = S.2 9 3 := by
    by_cases q : 9 = c
    · subst q; rw [stR_s, upd_o]; intro q; subst q; simp [okc] at hc
    · rw [stR_o q]
  have h4 : (stR S c i v).2 9 4 = S.2 9 4 := by
    by_cases q : 9 = c
    · subst q; rw [stR_s, upd_o]; intro q; subst q; simp [okc] at hc
    · rw [stR_o q]
  refine ⟨h.1, ?_, ?_, ?_, ?_⟩
  · rw [h2]; exact h.2.1
  · rw [stR_o h5]; exact h.2.2.1
  · rw [h3]; exact h.2.2.2.1
  · rw [h4]; exact h.2.2.2.2
def oka (c : Nat) : Bool := !(c == 5) && !(c == 2) && !(c == 9)
theorem IC_A {N : Nat} {S : CS} (h : IC N S) (c i : Nat) (v : Int32) (hc : oka c = true) : IC N (stR S c i v) := by
  refine IC_R h c i v ?_
  simp only [oka, okc, Bool.and_eq_true, Bool.not_eq_true', beq_eq_false_iff_ne] at hc ⊢
  simp [hc.1.1, hc.1.2, hc.2]
theorem IC_rd {N : Nat} {S : CS} (h : IC N S) (v : Int32) (h0 : 0 ≤ v.toInt) (h6 : v.toInt ≤ 6) : IC N (stR S 2 1 v) := ⟨h.1, ⟨h0, h6⟩, h.2.2.1, h.2.2.2.1, h.2.2.2.2⟩
theorem IC_rd0 {N : Nat} {S : CS} (h : IC N S) : IC N (stR S 2 1 0) := IC_rd h 0 (by decide) (by decide)
theorem IC_md {N : Nat} {S : CS} (h : IC N S) (v : Int32) (h0 : 0 ≤ v.toInt) (h6 : v.toInt ≤ 26) : IC N (stR S 9 3 v) := ⟨h.1, h.2.1, h.2.2.1, ⟨h0, h6⟩, h.2.2.2.2⟩
theorem IC_md0 {N : Nat} {S : CS} (h : IC N S) : IC N (stR S 9 3 0) := IC_md h 0 (by decide) (by decide)
theorem IC_mo {N M : Nat} {S : CS} (h : IC N S) (v : Int32) (h0 : 0 ≤ v.toInt) (h6 : v.toInt ≤ (M : Int)) : IC M (stR S 9 4 v) := ⟨h.1, h.2.1, h.2.2.1, h.2.2.2.1, ⟨h0, h6⟩⟩
theorem IC_mo0 {N : Nat} {S : CS} (h : IC N S) : IC N (stR S 9 4 0) := IC_mo h 0 (by decide) (by rw [show (0 : Int32).toInt = 0 from rfl]; omega)
theorem IC_h0 {N : Nat} {S : CS} (h : IC N S) (i : Nat) : IC N (stR S 5 i 0) := by
  refine ⟨h.1, h.2.1, fun j => ?_, h.2.2.2.1, h.2.2.2.2⟩
  rw [stR_s]
  by_cases q : j = i
  · subst q; rw [upd_s]; decide
  · rw [upd_o q]; exact h.2.2.1 j
theorem IC_hq {N : Nat} {S : CS} (h : IC N S) (i : Nat) {k : Nat} (hk : k < 3) : IC N (stR S 5 i (nI (k + 1))) := by
  refine ⟨h.1, h.2.1, fun j => ?_, h.2.2.2.1, h.2.2.2.2⟩
  rw [stR_s]
  by_cases q : j = i
  · subst q; rw [upd_s]; unfold hc; rw [nI_clamp (by omega)]; omega
  · rw [upd_o q]; exact h.2.2.1 j
theorem IC_T {N : Nat} {S : CS} (h : IC N S) (k j i : Nat) (v : Int32) (hj : 0 ≠ j) : IC N (stT S k j i v) := by
  refine ⟨fun q hq => ?_, h.2⟩
  rw [stT_o hj]
  exact h.1 q hq
theorem IC_t0 {N : Nat} {S : CS} (h : IC N S) (k i : Nat) (v : Int32) (h6 : 6 = i → 0 ≤ v.toInt ∧ v.toInt ≤ 60) (h8 : 8 = i → bl v) (h9 : 9 = i → bl v) : IC N (stT S k 0 i v) := by
  refine ⟨fun q hq => ?_, h.2⟩
  by_cases hk : q = k
  · subst hk
    rw [stT_s]
    obtain ⟨a1, a2, a3, a4⟩ := h.1 q hq
    refine ⟨?_, ?_, ?_, ?_⟩
    · by_cases e : 6 = i
      · rw [← e, upd_s]; exact (h6 e).1
      · rw [upd_o e]; exact a1
    · by_cases e : 6 = i
      · rw [← e, upd_s]; exact (h6 e).2
      · rw [upd_o e]; exact a2
    · by_cases e : 8 = i
      · rw [← e, upd_s]; exact h8 e
      · rw [upd_o e]; exact a3
    · by_cases e : 9 = i
      · rw [← e, upd_s]; exact h9 e
      · rw [upd_o e]; exact a4
  · rw [stT_k hk]
    exact h.1 q hq
theorem IC_T7 {N : Nat} {S : CS} (h : IC N S) (k : Nat) (v : Int32) : IC N (stT S k 0 7 v) := IC_t0 h k 7 v (fun q => absurd q (by decide)) (fun q => absurd q (by decide)) (fun q => absurd q (by decide))
theorem IC_tl {N : Nat} {S : CS} (h : IC N S) (k : Nat) (v : Int32) (h0 : 0 ≤ v.toInt) (h6 : v.toInt ≤ 60) : IC N (stT S k 0 6 v) := IC_t0 h k 6 v (fun _ => ⟨h0, h6⟩) (fun q => absurd q (by decide)) (fun q => absurd q (by decide))
theorem IC_tl0 {N : Nat} {S : CS} (h : IC N S) (k : Nat) : IC N (stT S k 0 6 0) := IC_tl h k 0 (by decide) (by decide)
theorem IC_tb {N : Nat} {S : CS} (h : IC N S) (k i : Nat) (hi : i = 8 ∨ i = 9) (v : Int32) (hb : bl v) : IC N (stT S k 0 i v) := IC_t0 h k i v (fun q => by omega) (fun _ => hb) (fun _ => hb)
-- numbers
theorem i_nle {c x : Int32} (n : Int) (hc : c.toInt = n) (h : ¬ c ≤ x) : x.toInt < n := by
  rw [Int32.le_iff_toInt_le, hc] at h; omega
theorem i_nlt {c x : Int32} (n : Int) (hc : c.toInt = n) (h : ¬ x < c) : n ≤ x.toInt := by
  rw [Int32.lt_iff_toInt_lt, hc] at h; omega
theorem i_lt {c x : Int32} (n : Int) (hc : c.toInt = n) (h : x < c) : x.toInt < n := by
  rw [Int32.lt_iff_toInt_lt, hc] at h; omega
theorem i_le {c x : Int32} (n : Int) (hc : c.toInt = n) (h : c ≤ x) : n ≤ x.toInt := by
  rw [Int32.le_iff_toInt_le, hc] at h; omega
theorem i_nle0 {x : Int32} (h : ¬ x ≤ 0) : 0 < x.toInt := by
  rw [Int32.le_iff_toInt_le, Int32.toInt_zero] at h; omega
theorem i_bm {x : Int} (h0 : -2147483648 ≤ x) (h1 : x < 2147483648) : x.bmod (2 ^ 32) = x := Int.bmod_eq_of_le (by omega) (by omega)
theorem i_sub {x c : Int32} (n : Int) (hc : c.toInt = n) (h0 : -2147483648 ≤ x.toInt - n) (h1 : x.toInt - n < 2147483648) : (x - c).toInt = x.toInt - n := by
  rw [Int32.toInt_sub, hc]; exact i_bm h0 h1
theorem i_add {x c : Int32} (n : Int) (hc : c.toInt = n) (h0 : -2147483648 ≤ x.toInt + n) (h1 : x.toInt + n < 2147483648) : (x + c).toInt = x.toInt + n := by
  rw [Int32.toInt_add, hc]; exact i_bm h0 h1
theorem vin {x : Int32} {n : Nat} (h0 : 0 ≤ x.toInt) (h1 : x.toInt < (n : Int)) : vp_in x n := vp_in_iff.mpr ⟨h0, h1⟩
-- rows of the machine over the cells
theorem md_m {N : Nat} {S : CS} (h : IC N S) (hp : 0 < (S.2 9 3).toInt) : 0 ≤ (S.2 9 3 - 1).toInt ∧ (S.2 9 3 - 1).toInt ≤ 26 := by
  have q := h.2.2.2.1
  rw [i_sub 1 rfl (by omega) (by omega)]; omega
theorem dm_in {N : Nat} {S : CS} (h : IC N S) (hp : 0 < (S.2 9 3).toInt) : vp_in (S.2 9 3 - 1) 26 := by
  have q := h.2.2.2.1
  refine vin ?_ ?_ <;> rw [i_sub 1 rfl (by omega) (by omega)] <;> omega
theorem dp_in {N : Nat} {S : CS} (h : IC N S) (hp : (S.2 9 3).toInt < 26) : vp_in (S.2 9 3) 26 := vin h.2.2.2.1.1 hp
theorem md_p {N : Nat} {S : CS} (h : IC N S) (hp : (S.2 9 3).toInt < 26) : 0 ≤ (S.2 9 3 + 1).toInt ∧ (S.2 9 3 + 1).toInt ≤ 26 := by
  have q := h.2.2.2.1
  rw [i_add 1 rfl (by omega) (by omega)]; omega
theorem mo_p {N : Nat} {S : CS} (h : IC N S) (hN : N < 1000000) : 0 ≤ (S.2 9 4 + 1).toInt ∧ (S.2 9 4 + 1).toInt ≤ ((N + 1 : Nat) : Int) := by
  have q := h.2.2.2.2
  rw [i_add 1 rfl (by omega) (by omega)]; omega
theorem ko_in {N : Nat} {S : CS} (h : IC N S) (hp : (S.2 9 4).toInt < 24) : vp_in (S.2 9 4) 24 := vin h.2.2.2.2.1 hp
theorem rm_in {N : Nat} {S : CS} (h : IC N S) (hp : 0 < (S.2 2 1).toInt) : vp_in (S.2 2 1 - 1) 6 := by
  have q := h.2.1
  refine vin ?_ ?_ <;> rw [i_sub 1 rfl (by omega) (by omega)] <;> omega
theorem rd_m {N : Nat} {S : CS} (h : IC N S) (hp : 0 < (S.2 2 1).toInt) : 0 ≤ (S.2 2 1 - 1).toInt ∧ (S.2 2 1 - 1).toInt < 6 := by
  have q := h.2.1
  rw [i_sub 1 rfl (by omega) (by omega)]; omega
theorem rd_lt {N : Nat} {S : CS} {n : Nat} (h : IC N S) (hp : 0 < (S.2 2 1).toInt) (hn : (S.2 2 1).toInt < ((n + 1 : Nat) : Int)) : (S.2 2 1 - 1).toInt < (n : Int) := by
  have q := h.2.1
  rw [i_sub 1 rfl (by omega) (by omega)]; omega
theorem rp_in {N : Nat} {S : CS} (h : IC N S) (hp : (S.2 2 1).toInt < 6) : vp_in (S.2 2 1) 6 := vin h.2.1.1 hp
theorem rd_p {N : Nat} {S : CS} (h : IC N S) (hp : (S.2 2 1).toInt < 6) : 0 ≤ (S.2 2 1 + 1).toInt ∧ (S.2 2 1 + 1).toInt ≤ 6 := by
  have q := h.2.1
  rw [i_add 1 rfl (by omega) (by omega)]; omega
theorem ln_in {N : Nat} {S : CS} (h : IC N S) {k : Nat} (hk : k < 3) (hp : (S.1 k 0 6).toInt < 60) : vp_in (S.1 k 0 6) 60 := vin (h.1 k hk).1 hp
theorem ln_p {N : Nat} {S : CS} (h : IC N S) {k : Nat} (hk : k < 3) (hp : (S.1 k 0 6).toInt < 60) : 0 ≤ (S.1 k 0 6 + 1).toInt ∧ (S.1 k 0 6 + 1).toInt ≤ 60 := by
  have q := h.1 k hk
  rw [i_add 1 rfl (by omega) (by omega)]; omega
theorem ln_nat {N : Nat} {S : CS} (h : IC N S) {k : Nat} (hk : k < 3) : ∃ b : Nat, S.1 k 0 6 = nI b ∧ b ≤ 60 := by
  have q := h.1 k hk
  refine ⟨(S.1 k 0 6).toInt.toNat, ?_, by omega⟩
  apply Int32.toInt_inj.mp
  rw [nI_toInt (by omega)]
  omega
theorem sg_in {N : Nat} {S : CS} (h : IC N S) {k : Nat} (hk : k < 3) {p : Int32} (h1 : ¬ p < 0) (h2 : ¬ S.1 k 0 6 ≤ p) : vp_in p 60 := by
  have q := h.1 k hk
  rw [Int32.lt_iff_toInt_lt, Int32.toInt_zero] at h1
  rw [Int32.le_iff_toInt_le] at h2
  refine vin ?_ ?_ <;> omega
theorem rn_nat {p : Int32} (h1 : ¬ p < 1) (h2 : ¬ 4 < p) : ∃ b : Nat, p = nI b ∧ b ≤ 4 := by
  rw [Int32.lt_iff_toInt_lt, show (1 : Int32).toInt = 1 from rfl] at h1
  rw [Int32.lt_iff_toInt_lt, show (4 : Int32).toInt = 4 from rfl] at h2
  refine ⟨p.toInt.toNat, ?_, by omega⟩
  apply Int32.toInt_inj.mp
  rw [nI_toInt (by omega)]
  omega
