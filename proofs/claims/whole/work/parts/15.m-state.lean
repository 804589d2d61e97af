/-- the reference's state: cell 0 its own fields, the others its rows -/
abbrev MS : Type := Nat → Nat → Int32
/-- where its cells lie; the classes of int[], boolean[], long[] -/
abbrev MP : Type := (Nat → Nat) × ClassId × ClassId × ClassId
abbrev mA (G : MP) (c : Nat) : Nat := G.1 c
def stM (S : MS) (c i : Nat) (v : Int32) : MS := va_up S c (upd (S c) i v)
abbrev fM (G : MP) (S : MS) : List Value := [.ref (mA G 1), .ref (mA G 2), .ref (mA G 3), .int (S 0 3), .ref (mA G 4), .int (S 0 5), .int (S 0 6), .int (S 0 7), .int (S 0 8), .int (S 0 9), .ref (mA G 5), .ref (mA G 6), .ref (mA G 7), .ref (mA G 8), .ref (mA G 9), .ref (mA G 10), .ref (mA G 11), .ref (mA G 12), .ref (mA G 13), .int (S 0 19), .int (S 0 20), .int (S 0 21), .ref (mA G 14), .int (S 0 23), .ref (mA G 15), .ref (mA G 16), .ref (mA G 17), .ref (mA G 18), .int (S 0 28), .int (S 0 29)]
def wM (G : MP) (S : MS) : va_W := [
  (mA G 0, .inr (6, fM G S)),
  (mA G 1, .inl (G.2.1, 180, .inl (S 1))),
  (mA G 2, .inl (G.2.1, 3, .inl (S 2))),
  (mA G 3, .inl (G.2.2.1, 3, .inl (S 3))),
  (mA G 4, .inl (G.2.1, 8, .inl (S 4))),
  (mA G 5, .inl (G.2.1, 180, .inl (S 5))),
  (mA G 6, .inl (G.2.1, 180, .inl (S 6))),
  (mA G 7, .inl (G.2.1, 180, .inl (S 7))),
  (mA G 8, .inl (G.2.1, 180, .inl (S 8))),
  (mA G 9, .inl (G.2.1, 180, .inl (S 9))),
  (mA G 10, .inl (G.2.1, 26, .inl (S 10))),
  (mA G 11, .inl (G.2.1, 26, .inl (S 11))),
  (mA G 12, .inl (G.2.1, 8, .inl (S 12))),
  (mA G 13, .inl (G.2.2.2, 24, .inr (.inl (fun j => (S 13 j).toInt64)))),
  (mA G 14, .inl (G.2.1, 26, .inl (S 14))),
  (mA G 15, .inl (G.2.1, 8, .inl (S 15))),
  (mA G 16, .inl (G.2.1, 8, .inl (S 16))),
  (mA G 17, .inl (G.2.1, 8, .inl (S 17))),
  (mA G 18, .inl (G.2.1, 60, .inl (S 18)))]
def tyM (G : MP) : List (ClassId × FieldType) := [(G.2.1, .int), (G.2.2.1, .boolean), (G.2.2.2, .long)]
theorem m_0 (G : MP) (S : MS) : (wM G S)[0]? = some (mA G 0, .inr (6, fM G S)) := rfl
theorem m_1 (G : MP) (S : MS) : (wM G S)[1]? = some (mA G 1, .inl (G.2.1, 180, .inl (S 1))) := rfl
theorem m_2 (G : MP) (S : MS) : (wM G S)[2]? = some (mA G 2, .inl (G.2.1, 3, .inl (S 2))) := rfl
theorem m_3 (G : MP) (S : MS) : (wM G S)[3]? = some (mA G 3, .inl (G.2.2.1, 3, .inl (S 3))) := rfl
theorem m_4 (G : MP) (S : MS) : (wM G S)[4]? = some (mA G 4, .inl (G.2.1, 8, .inl (S 4))) := rfl
theorem m_5 (G : MP) (S : MS) : (wM G S)[5]? = some (mA G 5, .inl (G.2.1, 180, .inl (S 5))) := rfl
theorem m_6 (G : MP) (S : MS) : (wM G S)[6]? = some (mA G 6, .inl (G.2.1, 180, .inl (S 6))) := rfl
theorem m_7 (G : MP) (S : MS) : (wM G S)[7]? = some (mA G 7, .inl (G.2.1, 180, .inl (S 7))) := rfl
theorem m_8 (G : MP) (S : MS) : (wM G S)[8]? = some (mA G 8, .inl (G.2.1, 180, .inl (S 8))) := rfl
theorem m_9 (G : MP) (S : MS) : (wM G S)[9]? = some (mA G 9, .inl (G.2.1, 180, .inl (S 9))) := rfl
theorem m_10 (G : MP) (S : MS) : (wM G S)[10]? = some (mA G 10, .inl (G.2.1, 26, .inl (S 10))) := rfl
theorem m_11 (G : MP) (S : MS) : (wM G S)[11]? = some (mA G 11, .inl (G.2.1, 26, .inl (S 11))) := rfl
theorem m_12 (G : MP) (S : MS) : (wM G S)[12]? = some (mA G 12, .inl (G.2.1, 8, .inl (S 12))) := rfl
theorem m_13 (G : MP) (S : MS) : (wM G S)[13]? = some (mA G 13, .inl (G.2.2.2, 24, .inr (.inl (fun j => (S 13 j).toInt64)))) := rfl
theorem m_14 (G : MP) (S : MS) : (wM G S)[14]? = some (mA G 14, .inl (G.2.1, 26, .inl (S 14))) := rfl
theorem m_15 (G : MP) (S : MS) : (wM G S)[15]? = some (mA G 15, .inl (G.2.1, 8, .inl (S 15))) := rfl
theorem m_16 (G : MP) (S : MS) : (wM G S)[16]? = some (mA G 16, .inl (G.2.1, 8, .inl (S 16))) := rfl
theorem m_17 (G : MP) (S : MS) : (wM G S)[17]? = some (mA G 17, .inl (G.2.1, 8, .inl (S 17))) := rfl
theorem m_18 (G : MP) (S : MS) : (wM G S)[18]? = some (mA G 18, .inl (G.2.1, 60, .inl (S 18))) := rfl
theorem mst_3 (G : MP) (S : MS) (v : Int32) : (wM G S).set 0 (mA G 0, .inr (6, (fM G S).set 3 (.int v))) = wM G (stM S 0 3 v) := rfl
theorem mst_5 (G : MP) (S : MS) (v : Int32) : (wM G S).set 0 (mA G 0, .inr (6, (fM G S).set 5 (.int v))) = wM G (stM S 0 5 v) := rfl
theorem mst_6 (G : MP) (S : MS) (v : Int32) : (wM G S).set 0 (mA G 0, .inr (6, (fM G S).set 6 (.int v))) = wM G (stM S 0 6 v) := rfl
theorem mst_7 (G : MP) (S : MS) (v : Int32) : (wM G S).set 0 (mA G 0, .inr (6, (fM G S).set 7 (.int v))) = wM G (stM S 0 7 v) := rfl
theorem mst_8 (G : MP) (S : MS) (v : Int32) : (wM G S).set 0 (mA G 0, .inr (6, (fM G S).set 8 (.int v))) = wM G (stM S 0 8 v) := rfl
theorem mst_9 (G : MP) (S : MS) (v : Int32) : (wM G S).set 0 (mA G 0, .inr (6, (fM G S).set 9 (.int v))) = wM G (stM S 0 9 v) := rfl
theorem mst_19 (G : MP) (S : MS) (v : Int32) : (wM G S).set 0 (mA G 0, .inr (6, (fM G S).set 19 (.int v))) = wM G (stM S 0 19 v) := rfl
theorem mst_20 (G : MP) (S : MS) (v : Int32) : (wM G S).set 0 (mA G 0, .inr (6, (fM G S).set 20 (.int v))) = wM G (stM S 0 20 v) := rfl
theorem mst_21 (G : MP) (S : MS) (v : Int32) : (wM G S).set 0 (mA G 0, .inr (6, (fM G S).set 21 (.int v))) = wM G (stM S 0 21 v) := rfl
theorem mst_23 (G : MP) (S : MS) (v : Int32) : (wM G S).set 0 (mA G 0, .inr (6, (fM G S).set 23 (.int v))) = wM G (stM S 0 23 v) := rfl
theorem mst_28 (G : MP) (S : MS) (v : Int32) : (wM G S).set 0 (mA G 0, .inr (6, (fM G S).set 28 (.int v))) = wM G (stM S 0 28 v) := rfl
theorem mst_29 (G : MP) (S : MS) (v : Int32) : (wM G S).set 0 (mA G 0, .inr (6, (fM G S).set 29 (.int v))) = wM G (stM S 0 29 v) := rfl
theorem msta_1 (G : MP) (S : MS) (i : Nat) (v : Int32) : (wM G S).set 1 (mA G 1, .inl (G.2.1, 180, .inl (upd (S 1) i v))) = wM G (stM S 1 i v) := rfl
theorem msta_2 (G : MP) (S : MS) (i : Nat) (v : Int32) : (wM G S).set 2 (mA G 2, .inl (G.2.1, 3, .inl (upd (S 2) i v))) = wM G (stM S 2 i v) := rfl
theorem msta_3 (G : MP) (S : MS) (i : Nat) (v : Int32) : (wM G S).set 3 (mA G 3, .inl (G.2.2.1, 3, .inl (upd (S 3) i v))) = wM G (stM S 3 i v) := rfl
theorem msta_4 (G : MP) (S : MS) (i : Nat) (v : Int32) : (wM G S).set 4 (mA G 4, .inl (G.2.1, 8, .inl (upd (S 4) i v))) = wM G (stM S 4 i v) := rfl
theorem msta_5 (G : MP) (S : MS) (i : Nat) (v : Int32) : (wM G S).set 5 (mA G 5, .inl (G.2.1, 180, .inl (upd (S 5) i v))) = wM G (stM S 5 i v) := rfl
theorem msta_6 (G : MP) (S : MS) (i : Nat) (v : Int32) : (wM G S).set 6 (mA G 6, .inl (G.2.1, 180, .inl (upd (S 6) i v))) = wM G (stM S 6 i v) := rfl
theorem msta_7 (G : MP) (S : MS) (i : Nat) (v : Int32) : (wM G S).set 7 (mA G 7, .inl (G.2.1, 180, .inl (upd (S 7) i v))) = wM G (stM S 7 i v) := rfl
theorem msta_8 (G : MP) (S : MS) (i : Nat) (v : Int32) : (wM G S).set 8 (mA G 8, .inl (G.2.1, 180, .inl (upd (S 8) i v))) = wM G (stM S 8 i v) := rfl
theorem msta_9 (G : MP) (S : MS) (i : Nat) (v : Int32) : (wM G S).set 9 (mA G 9, .inl (G.2.1, 180, .inl (upd (S 9) i v))) = wM G (stM S 9 i v) := rfl
theorem msta_10 (G : MP) (S : MS) (i : Nat) (v : Int32) : (wM G S).set 10 (mA G 10, .inl (G.2.1, 26, .inl (upd (S 10) i v))) = wM G (stM S 10 i v) := rfl
theorem msta_11 (G : MP) (S : MS) (i : Nat) (v : Int32) : (wM G S).set 11 (mA G 11, .inl (G.2.1, 26, .inl (upd (S 11) i v))) = wM G (stM S 11 i v) := rfl
theorem msta_12 (G : MP) (S : MS) (i : Nat) (v : Int32) : (wM G S).set 12 (mA G 12, .inl (G.2.1, 8, .inl (upd (S 12) i v))) = wM G (stM S 12 i v) := rfl
theorem msta_14 (G : MP) (S : MS) (i : Nat) (v : Int32) : (wM G S).set 14 (mA G 14, .inl (G.2.1, 26, .inl (upd (S 14) i v))) = wM G (stM S 14 i v) := rfl
theorem msta_15 (G : MP) (S : MS) (i : Nat) (v : Int32) : (wM G S).set 15 (mA G 15, .inl (G.2.1, 8, .inl (upd (S 15) i v))) = wM G (stM S 15 i v) := rfl
theorem msta_16 (G : MP) (S : MS) (i : Nat) (v : Int32) : (wM G S).set 16 (mA G 16, .inl (G.2.1, 8, .inl (upd (S 16) i v))) = wM G (stM S 16 i v) := rfl
theorem msta_17 (G : MP) (S : MS) (i : Nat) (v : Int32) : (wM G S).set 17 (mA G 17, .inl (G.2.1, 8, .inl (upd (S 17) i v))) = wM G (stM S 17 i v) := rfl
theorem msta_18 (G : MP) (S : MS) (i : Nat) (v : Int32) : (wM G S).set 18 (mA G 18, .inl (G.2.1, 60, .inl (upd (S 18) i v))) = wM G (stM S 18 i v) := rfl
theorem updL_64 (f : Nat → Int32) (i : Nat) (v : Int32) : vp_updL (fun j => (f j).toInt64) i v.toInt64 = (fun j => (upd f i v j).toInt64) := by
  funext j
  by_cases h : j = i
  · subst h; simp [vp_updL, upd]
  · simp [vp_updL, upd, h]
theorem msta_13 (G : MP) (S : MS) (i : Nat) (v : Int32) : (wM G S).set 13 (mA G 13, .inl (G.2.2.2, 24, .inr (.inl (vp_updL (fun j => (S 13 j).toInt64) i v.toInt64)))) = wM G (stM S 13 i v) := by
  rw [updL_64]
  rfl
-- guards
def lt {α β : Type} (e : α) (k : α → Option β) : Option β := k e
theorem lt_of {α β : Type} {e : α} {k : α → Option β} {R : β} (h : lt e k = some R) {y : α} (hy : y = e) : k y = some R := by subst hy; exact h
def gd {β : Type} (g : Bool) (o : Option β) : Option β := match g with
  | true => o
  | false => none
theorem gd_of {β : Type} {g : Bool} {o : Option β} {R : β} (h : gd g o = some R) : g = true ∧ o = some R := by
  cases g
  · exact nomatch (show (none : Option β) = some R from h)
  · exact ⟨rfl, h⟩
def bd {α β : Type} (o : Option α) (k : α → Option β) : Option β := match o with
  | none => none
  | some q => k q
theorem bd_of {α β : Type} {o : Option α} {k : α → Option β} {R : β} (h : bd o k = some R) : ∃ q, o = some q ∧ k q = some R := by
  cases o with
  | none => exact nomatch (show (none : Option β) = some R from h)
  | some q => exact ⟨q, rfl, h⟩
def bd2 {α γ β : Type} (o : Option (α × γ)) (k : α → γ → Option β) : Option β := match o with
  | none => none
  | some q => k q.1 q.2
theorem bd2_of {α γ β : Type} {o : Option (α × γ)} {k : α → γ → Option β} {R : β} (h : bd2 o k = some R) : ∃ q S, o = some (q, S) ∧ k q S = some R := by
  cases o with
  | none => exact nomatch (show (none : Option β) = some R from h)
  | some q => exact ⟨q.1, q.2, rfl, h⟩
def jn {α β : Type} (r : α) (f : α → Option β) : Option β := f r
theorem jn_of {α β : Type} {r : α} {f : α → Option β} {R : β} (h : jn r f = some R) : ∃ k, k = r ∧ f k = some R := ⟨r, rfl, h⟩
theorem ps_of {β : Type} {P : Prop} {hd : Decidable P} {X Y : Option β} {R : β} (c : P) (h : @ite _ P hd X Y = some R) : X = some R := by rw [if_pos c] at h; exact h
theorem ng_of {β : Type} {P : Prop} {hd : Decidable P} {X Y : Option β} {R : β} (c : ¬ P) (h : @ite _ P hd X Y = some R) : Y = some R := by rw [if_neg c] at h; exact h
def ix (i : Int32) (n : Nat) : Bool := decide (0 ≤ i.toInt) && decide (i.toInt < (n : Int))
theorem ix_in {i : Int32} {n : Nat} (h : ix i n = true) : vp_in i n := by
  simp only [ix, Bool.and_eq_true, decide_eq_true_eq] at h
  exact vin h.1 h.2
def isB (x : Int32) : Bool := decide (x = 0) || decide (x = 1)
theorem isB_bl {x : Int32} (h : isB x = true) : bl x := by
  simp only [isB, Bool.or_eq_true, decide_eq_true_eq] at h
  exact h
theorem nar_bl {x : Int32} (h : bl x) : vp_nar .boolean x = x := by rcases h with rfl | rfl <;> rfl
def mPre (D : va_G) (G : MP) (S : MS) (sz : Nat) (U : State) : Prop := U.heap.size = sz ∧ va_P D vwCl (wM G S) U.heap ∧ va_K D vwCl (tyM G) U ∧ va_D (fun _ => True) (wM G S)
def wX (D : va_G) (G : MP) (A : Nat → Prop) (S : MS) (t : State) : Prop := va_P D vwCl (wM G S) t.heap ∧ va_D A (wM G S)
theorem blindNM {av : List Value} : FrameBlind (va_Pc av (fun _ => True)) := fun _ _ _ _ q => ⟨q.1, trivial⟩
theorem blindM {av : List Value} {D : va_G} {G : MP} {S : MS} {sz : Nat} : FrameBlind (va_Pc av (mPre D G S sz)) := fun a U g mk q => by
  obtain ⟨q0, q1, qP, qK, qD⟩ := q
  exact ⟨q0, q1, qP, va_K.moved (u := U) (U := U.calling g mk a) (Vm.Alike.refl U.vm) qK, qD⟩
theorem mPre_of {s U : State} {H : Heap} {D : va_G} {G : MP} {S : MS} {A : Nat → Prop} (hP : va_P D vwCl (wM G S) H) (hK : va_K D vwCl (tyM G) s) (hD : va_D A (wM G S)) (hU : U.heap = H) (hW : s.WarmedH U.vm) : mPre D G S H.size U := ⟨by rw [hU], by rw [hU]; exact hP, va_K.moved hW.alike hK, hD.weaken (fun _ _ _ _ => trivial)⟩
section GMR
variable {p : Program} {l : Launch} {e : Env} {R : Room} {s : State} {m : MethodId} {args : Array Value} {below : List Frame} {meth : Method} {c : Code} {H : Heap} {locs : List Loc} {cells slots : Nat} {Q : State → Prop}
variable {cc : ByteArray} {pc : Nat} {ls : Array Slot} {rest st0 : List Value} {D : va_G} {G : MP} {cl : List vw_C} {A : Nat → Prop} {a : Nat} {tys : List (ClassId × FieldType)} {ws wz : va_W} {H0 : Heap} {S : MS} {av : Array Value}
theorem va_zastE (hexec : p.tables.exec = Jvm.exec) (hb : c.code = cc) (hK : va_K D cl tys s) (hP : va_P D cl ws H) (hD : va_D A ws) (hS : va_S A H0 H locs) (q0 t0 : Nat) {cA : ClassId} {n : Nat} {f : Nat → Int32} (ha : ws[q0]? = some (a, .inl (cA, n, .inl f))) (ht : tys[t0]? = some (cA, .boolean)) {i : Int32} {x : Int32} (hin : vp_in i n) (hx : bl x) (hw : ws.set q0 (a, .inl (cA, n, .inl (upd f i.toNatClampNeg x))) = wz) (hdg : decode cc pc = .ok (.bastore, 1))
    (kk : ∀ (H1 : Heap) (locs1 : List Loc), va_P D cl wz H1 → va_D A wz → va_S A H0 H1 locs1 → W p l e R s m args below meth c H1 locs1 cells slots Q (F0 m (pc + 1) ls rest)) : W p l e R s m args below meth c H locs cells slots Q (F0 m pc ls (.int x :: .int i :: .ref a :: rest)) := by
  subst hw
  refine va_zast hexec hb hK hP hD hS q0 t0 ha ht hin hdg ?_
  rw [nar_bl hx]
  exact kk
theorem va_lastE (hexec : p.tables.exec = Jvm.exec) (hb : c.code = cc) (hK : va_K D cl tys s) (hP : va_P D cl ws H) (hD : va_D A ws) (hS : va_S A H0 H locs) (q0 t0 : Nat) {cA : ClassId} {n : Nat} {f : Nat → Int64} (ha : ws[q0]? = some (a, .inl (cA, n, .inr (.inl f)))) (ht : tys[t0]? = some (cA, .long)) {i : Int32} {x : Int64} (hin : vp_in i n) (hw : ws.set q0 (a, .inl (cA, n, .inr (.inl (vp_updL f i.toNatClampNeg x)))) = wz) (hdg : decode cc pc = .ok (.lastore, 1))
    (kk : ∀ (H1 : Heap) (locs1 : List Loc), va_P D cl wz H1 → va_D A wz → va_S A H0 H1 locs1 → W p l e R s m args below meth c H1 locs1 cells slots Q (F0 m (pc + 1) ls rest)) : W p l e R s m args below meth c H locs cells slots Q (F0 m pc ls (.long x :: .int i :: .ref a :: rest)) := by
  subst hw
  exact va_last hexec hb hK hP hD hS q0 t0 ha ht hin hdg kk
theorem dq_i {post : Int32 → MS → Prop} (hr : va_Run p l e R s m args below meth c H locs cells slots 0 0 (F0 m pc ls st0) rest (va_Qi post (wX D G (va_A (wM G S) H.size)) (va_A (wM G S) H.size) av) (va_A (wM G S) H.size)) (hD : va_D A (wM G S)) (hS : va_S A H0 H locs) (hA : ∀ q, H0.size ≤ q → A q)
    (kk : ∀ (r : Int32) (S1 : MS) (H1 : Heap) (locs1 : List Loc), post r S1 → va_P D vwCl (wM G S1) H1 → va_D A (wM G S1) → va_S A H0 H1 locs1 → W p l e R s m args below meth c H1 locs1 cells slots Q (F0 m (pc + 3) ls (.int r :: rest))) : W p l e R s m args below meth c H locs cells slots Q (F0 m pc ls st0) := by
  have hF : ∀ q, va_A (wM G S) H.size q → A q := freeAll hD hS hA
  refine va_calli hr hS (fun q _ h => hF q h) hF (fun r u t H1 locs1 ht hvm hw hB hz1 hk1 hS => ?_)
  obtain ⟨hP1, hD1⟩ := hB
  rw [ht] at hP1
  exact kk r u H1 locs1 hw hP1 (hD1.weaken (fun _ _ _ h => hF _ h)) hS
theorem dq_v {post : MS → Prop} (hr : va_Run p l e R s m args below meth c H locs cells slots 0 0 (F0 m pc ls st0) rest (va_Qv post (wX D G (va_A (wM G S) H.size)) (va_A (wM G S) H.size) av) (va_A (wM G S) H.size)) (hD : va_D A (wM G S)) (hS : va_S A H0 H locs) (hA : ∀ q, H0.size ≤ q → A q)
    (kk : ∀ (S1 : MS) (H1 : Heap) (locs1 : List Loc), post S1 → va_P D vwCl (wM G S1) H1 → va_D A (wM G S1) → va_S A H0 H1 locs1 → W p l e R s m args below meth c H1 locs1 cells slots Q (F0 m (pc + 3) ls rest)) : W p l e R s m args below meth c H locs cells slots Q (F0 m pc ls st0) := by
  have hF : ∀ q, va_A (wM G S) H.size q → A q := freeAll hD hS hA
  refine va_callv hr hS (fun q _ h => hF q h) hF (fun u t H1 locs1 ht hvm hw hB hz1 hk1 hS => ?_)
  obtain ⟨hP1, hD1⟩ := hB
  rw [ht] at hP1
  exact kk u H1 locs1 hw hP1 (hD1.weaken (fun _ _ _ h => hF _ h)) hS
end GMR
