def r_0 : RS := ([], 0, 0, 0, 0, 0, 0)
def runR (t : Nat → Int32) : Nat → Option RS
  | 0 => some r_0
  | p + 1 => match runR t p with
    | none => none
    | some r => stepR t p r
theorem runR_s {t : Nat → Int32} {p : Nat} {r : RS} (h : runR t p = some r) : runR t (p + 1) = stepR t p r := by
  show (match runR t p with | none => none | some r => stepR t p r) = _
  rw [h]
theorem runR_p {t : Nat → Int32} {p : Nat} {r : RS} (h : runR t (p + 1) = some r) : ∃ r1, runR t p = some r1 ∧ stepR t p r1 = some r := by
  cases q : runR t p with
  | none =>
    have : runR t (p + 1) = none := by
      show (match runR t p with | none => none | some r => stepR t p r) = _
      rw [q]
    rw [this] at h; cases h
  | some r1 => exact ⟨r1, rfl, by rw [← runR_s q]; exact h⟩
theorem runR_le {t : Nat → Int32} : ∀ {n p : Nat} {r : RS}, runR t n = some r → p ≤ n → ∃ r1, runR t p = some r1
  | 0, p, r, h, hp => by
    have : p = 0 := by omega
    subst this; exact ⟨_, h⟩
  | n + 1, p, r, h, hp => by
    by_cases q : p = n + 1
    · subst q; exact ⟨_, h⟩
    · obtain ⟨r1, h1, _⟩ := runR_p h
      exact runR_le h1 (by omega)
theorem WS_0 (t : Nat → Int32) : WS t 0 r_0 := ⟨fun a h => absurd h List.not_mem_nil, fun h => absurd rfl h, Nat.le_refl _, by decide, by decide, fun _ => trivial, fun h => by omega, fun _ => rfl, fun h => by omega, fun h => by omega, fun h => by omega, fun h => by omega, by decide⟩
theorem WS_run {t : Nat → Int32} : ∀ {p : Nat} {r : RS}, runR t p = some r → WS t p r
  | 0, r, h => by cases h; exact WS_0 t
  | p + 1, r, h => by
    obtain ⟨r1, h1, h2⟩ := runR_p h
    exact WS_step (WS_run h1) h2
/-- what the fault of a text is -/
def FaultIs (t : Nat → Int32) (n : Nat) (v : Int32) : Prop := (∃ p, p < n ∧ (∃ r, runR t p = some r) ∧ runR t (p + 1) = none ∧ v = nI p) ∨ (∃ r, runR t n = some r ∧ v = if r.2.1 = 0 then -2 else nI n)
theorem FaultIs_one {t : Nat → Int32} {n : Nat} {v w : Int32} (h : FaultIs t n v) (g : FaultIs t n w) : v = w := by
  rcases h with ⟨p, hp, ⟨r, hr⟩, hn, rfl⟩ | ⟨r, hr, rfl⟩
  · rcases g with ⟨p', hp', ⟨r', hr'⟩, hn', rfl⟩ | ⟨r', hr', rfl⟩
    · rcases Nat.lt_trichotomy p p' with q | q | q
      · obtain ⟨z, hz⟩ := runR_le hr' (show p + 1 ≤ p' by omega)
        rw [hn] at hz; cases hz
      · rw [q]
      · obtain ⟨z, hz⟩ := runR_le hr (show p' + 1 ≤ p by omega)
        rw [hn'] at hz; cases hz
    · obtain ⟨z, hz⟩ := runR_le hr' (show p + 1 ≤ n by omega)
      rw [hn] at hz; cases hz
  · rcases g with ⟨p', hp', ⟨r', hr'⟩, hn', rfl⟩ | ⟨r', hr', rfl⟩
    · obtain ⟨z, hz⟩ := runR_le hr (show p' + 1 ≤ n by omega)
      rw [hn'] at hz; cases hz
    · rw [hr] at hr'; cases hr'; rfl
/-- the class behind p signs -/
noncomputable def trS (S : CS) (k : Nat) : Nat → CS
  | 0 => S
  | p + 1 => (f_RD_takes (trS S k p) k (nI p)).2
theorem trS_fr (S : CS) (k : Nat) : ∀ p, FR k S (trS S k p)
  | 0 => FR.rf
  | p + 1 => (trS_fr S k p).tr (fr_tak _ _ _)
theorem trS_RC {S : CS} {k n : Nat} (hn : S.1 k 0 6 = nI n) (h60 : n ≤ 60) (h0 : RC S r_0) : ∀ {p : Nat} {r : RS}, p ≤ n → runR (S.1 k 1) p = some r → RC (trS S k p) r
  | 0, r, _, h => by cases h; exact h0
  | p + 1, r, hp, h => by
    obtain ⟨r1, h1, h2⟩ := runR_p h
    have fr := trS_fr S k p
    have ih := trS_RC hn h60 h0 (by omega) h1
    have q := tk_spec (S := trS S k p) (fr.2.2.2.1.trans hn) h60 (show p < n by omega) ih (by rw [fr.2.2.1]; exact (WS_run h1).WR)
    unfold TK at q
    rw [fr.2.2.1, h2] at q
    exact q.2.1
theorem trS_ok {S : CS} {k n : Nat} (hn : S.1 k 0 6 = nI n) (h60 : n ≤ 60) (h0 : RC S r_0) {p : Nat} {r : RS} (hp : p < n) (h : runR (S.1 k 1) p = some r) : ((f_RD_takes (trS S k p) k (nI p)).1 = 0 ↔ runR (S.1 k 1) (p + 1) = none) ∧ (∀ r', runR (S.1 k 1) (p + 1) = some r' → (trS S k (p + 1)).1 = (tb (S.1 k 1) p k (trS S k p) r).1) := by
  have fr := trS_fr S k p
  have q := tk_spec (S := trS S k p) (fr.2.2.2.1.trans hn) h60 hp (trS_RC hn h60 h0 (by omega) h) (by rw [fr.2.2.1]; exact (WS_run h).WR)
  unfold TK at q
  rw [fr.2.2.1] at q
  rw [runR_s h]
  cases z : stepR (S.1 k 1) p r with
  | none => rw [z] at q; exact ⟨⟨fun _ => rfl, fun _ => q⟩, fun r' w => by cases w⟩
  | some r' =>
    rw [z] at q
    refine ⟨⟨fun w => ?_, fun w => by cases w⟩, fun _ _ => q.2.2⟩
    have q1 : (f_RD_takes (trS S k p) k (nI p)).1 = 1 := q.1
    rw [w] at q1
    exact absurd q1 (by decide)
theorem fau_q {S : CS} {k n : Nat} (hn : S.1 k 0 6 = nI n) (h60 : n ≤ 60) (h0 : RC S r_0) : ∀ (f p : Nat) (r : RS), p ≤ n → n < p + f → runR (S.1 k 1) p = some r →
    FaultIs (S.1 k 1) n (q_RD_faultOf_21 f (trS S k p) (nI n) k (nI p)).1 ∧ (∀ r', runR (S.1 k 1) n = some r' → (q_RD_faultOf_21 f (trS S k p) (nI n) k (nI p)).2 = trS S k n) := by
  intro f
  induction f with
  | zero => intro p r hp hf; omega
  | succ f ih =>
    intro p r hp hf hr
    rw [q_RD_faultOf_21]
    by_cases q : n ≤ p
    · have e : p = n := by omega
      subst e
      rw [if_pos (nI_le (Nat.le_refl p) (by omega))]
      have hRC := trS_RC hn h60 h0 (Nat.le_refl p) hr
      obtain ⟨stk, e, h, x, g, pr, st⟩ := r
      have he : (trS S k p).2 2 2 = nI e := hRC.2.2.2.1
      have he8 : e ≤ 8 := hRC.2.2.2.2.1
      rw [he]
      by_cases q0 : e = 0
      · subst q0
        rw [if_pos nI_0]
        exact ⟨Or.inr ⟨_, hr, by simp⟩, fun _ _ => rfl⟩
      · rw [if_neg (nI_ne0 (by omega) (by omega))]
        exact ⟨Or.inr ⟨_, hr, by simp [q0]⟩, fun _ _ => rfl⟩
    · rw [if_neg (nI_ge (by omega) (by omega))]
      obtain ⟨k1, k2⟩ := trS_ok hn h60 h0 (show p < n by omega) hr
      show FaultIs _ _ (if (f_RD_takes (trS S k p) k (nI p)).1 = 0 then (nI p, (f_RD_takes (trS S k p) k (nI p)).2) else q_RD_faultOf_21 f (f_RD_takes (trS S k p) k (nI p)).2 (nI n) k (nI p + 1)).1 ∧ (∀ r', runR (S.1 k 1) n = some r' → (if (f_RD_takes (trS S k p) k (nI p)).1 = 0 then (nI p, (f_RD_takes (trS S k p) k (nI p)).2) else q_RD_faultOf_21 f (f_RD_takes (trS S k p) k (nI p)).2 (nI n) k (nI p + 1)).2 = trS S k n)
      by_cases z : (f_RD_takes (trS S k p) k (nI p)).1 = 0
      · rw [if_pos z]
        refine ⟨Or.inl ⟨p, by omega, ⟨r, hr⟩, k1.mp z, rfl⟩, fun r' w => ?_⟩
        obtain ⟨u, hu⟩ := runR_le w (show p + 1 ≤ n by omega)
        rw [k1.mp z] at hu; cases hu
      · rw [if_neg z, nI_1]
        cases w : runR (S.1 k 1) (p + 1) with
        | none => exact absurd (k1.mpr w) z
        | some r1 => exact ih (p + 1) r1 (by omega) (by omega) w
/-- the class's reader, set back -/
noncomputable def rs_ (S : CS) (k : Nat) : CS := stR (stR (f_MT_forget S k) 2 1 0) 2 2 0
theorem fau_s {N : Nat} {S : CS} {k : Nat} (hI : IC N S) (hk : k < 3) : ∃ n, S.1 k 0 6 = nI n ∧ n ≤ 60 ∧ FaultIs (S.1 k 1) n (f_RD_faultOf S k).1 ∧ (∀ r, runR (S.1 k 1) n = some r → (f_RD_faultOf S k).2 = trS (rs_ S k) k n) := by
  obtain ⟨n, hn, h60⟩ := ln_nat hI hk
  have fr : FR k S (rs_ S k) := ((fr_fgt S k).tr (FR.R 1 0)).tr (FR.R 2 0)
  have hn' : (rs_ S k).1 k 0 6 = nI n := fr.2.2.2.1.trans hn
  have h0 : RC (rs_ S k) r_0 := ⟨by unfold rs_; simp [stR_at]; rfl, by decide, trivial, by unfold rs_; simp [stR_at]; rfl, by decide, fun z => absurd rfl z, fun z => by omega, fun z => by omega⟩
  have q := fau_q hn' h60 h0 (fz 61) 0 r_0 (by omega) (by rw [fz_eq]; omega) rfl
  have e : f_RD_faultOf S k = q_RD_faultOf_21 (fz 61) (rs_ S k) (f_MT_length (rs_ S k) k) k 0 := rfl
  rw [fr.2.2.1] at q
  refine ⟨n, hn, h60, ?_, ?_⟩
  · rw [e, show f_MT_length (rs_ S k) k = nI n from hn']
    exact q.1
  · rw [e, show f_MT_length (rs_ S k) k = nI n from hn']
    exact q.2
