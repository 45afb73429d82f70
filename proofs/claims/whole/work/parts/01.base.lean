/-- what an instruction must keep so that a run may use its operands as indexes -/
def sl_in (k a b c : Int32) : Prop :=
  (k = 0 ∧ vp_in a 8) ∨ (k = 1 ∧ vp_in a 8 ∧ vp_in b 8 ∧ vp_in c 8) ∨ (k = 2 ∧ vp_in a 8 ∧ vp_in b 8 ∧ vp_in c 8) ∨
  (k = 3 ∧ vp_in a 8 ∧ vp_in b 8) ∨ (k = 4 ∧ vp_in a 8 ∧ vp_in c 8) ∨ (k = 5 ∧ vp_in a 8)
/-- the first m instructions keep it -/
def sl_p (m : Nat) (ki f s t : Nat → Int32) : Prop := ∀ j : Nat, j < m → sl_in (ki j) (f j) (s j) (t j)
theorem sl_10 : ¬ (1 : Int32) = 0 := by decide
theorem sl_us {f : Nat → Int32} {k : Nat} {x : Int32} : upd f k x k = x := by simp [upd]
theorem sl_un {f : Nat → Int32} {k j : Nat} {x : Int32} (h : j ≠ k) : upd f k x j = f j := by simp [upd, h]
theorem sl_reg (p : Int32) : ∃ r : Int32, (r = 0 ∨ (r = 1 ∧ vp_in p 8)) ∧ (∀ post : Int32 → Prop, post r → wpX_isRegister post p) ∧ (∀ (post : Int32 → Prop) (c l : Int32) (ki f s t rg w b : Nat → Int32), post r → wpY_isRegister post (c, l, ki, f, s, t, rg, w, b) p) := by
  by_cases h0 : p < 0
  · exact ⟨0, Or.inl rfl, fun _ hp => br_t h0 hp, fun _ _ _ _ _ _ _ _ _ _ hp => br_t h0 hp⟩
  · obtain ⟨j, hj, rfl⟩ := nI_of h0
    by_cases h8 : j < 8
    · have hX : ¬ (8 : Int32) ≤ nI j := nI_ge (b := 8) h8 (by decide)
      have hY : ¬ (7 : Int32) < nI j := nI_nlt (b := j) (a := 7) (by omega) (by decide)
      exact ⟨1, Or.inr ⟨rfl, vp_in_nI h8 (by decide)⟩, fun _ hp => br_f h0 (br_f hX hp), fun _ _ _ _ _ _ _ _ _ _ hp => br_f h0 (br_f hY hp)⟩
    · have hX : (8 : Int32) ≤ nI j := nI_le (a := 8) (by omega) hj
      have hY : (7 : Int32) < nI j := nI_lt (a := 7) (by omega) hj
      exact ⟨0, Or.inl rfl, fun _ hp => br_f h0 (br_t hX hp), fun _ _ _ _ _ _ _ _ _ _ hp => br_f h0 (br_t hY hp)⟩
theorem sl_adr (p : Int32) : ∃ r : Int32, (r = 0 ∨ (r = 1 ∧ vp_in p 16)) ∧ (∀ post : Int32 → Prop, post r → wpX_isAddress post p) ∧ (∀ (post : Int32 → Prop) (c l : Int32) (ki f s t rg w b : Nat → Int32), post r → wpY_isAddress post (c, l, ki, f, s, t, rg, w, b) p) := by
  by_cases h0 : p < 0
  · exact ⟨0, Or.inl rfl, fun _ hp => br_t h0 hp, fun _ _ _ _ _ _ _ _ _ _ hp => br_t h0 hp⟩
  · obtain ⟨j, hj, rfl⟩ := nI_of h0
    by_cases h8 : j < 16
    · have hX : ¬ (16 : Int32) ≤ nI j := nI_ge (b := 16) h8 (by decide)
      have hY : ¬ (15 : Int32) < nI j := nI_nlt (b := j) (a := 15) (by omega) (by decide)
      exact ⟨1, Or.inr ⟨rfl, vp_in_nI h8 (by decide)⟩, fun _ hp => br_f h0 (br_f hX hp), fun _ _ _ _ _ _ _ _ _ _ hp => br_f h0 (br_f hY hp)⟩
    · have hX : (16 : Int32) ≤ nI j := nI_le (a := 16) (by omega) hj
      have hY : (15 : Int32) < nI j := nI_lt (a := 15) (by omega) hj
      exact ⟨0, Or.inl rfl, fun _ hp => br_f h0 (br_t hX hp), fun _ _ _ _ _ _ _ _ _ _ hp => br_f h0 (br_t hY hp)⟩
/-- one append on both sides: one answer, one program again -/
theorem sl_app {m : Nat} {ki f s t : Nat → Int32} (l : Int32) (rg w b : Nat → Int32) (hm : m ≤ 14) (hp : sl_p m ki f s t) (k a1 a2 a3 : Int32) (hi : sl_in k a1 a2 a3) :
    ∃ (r : Int32) (m' : Nat) (ki' f' s' t' : Nat → Int32), m' ≤ 14 ∧ sl_p m' ki' f' s' t' ∧
      (∀ post : Int32 → SX → Prop, post r (nI m', l, rg, w, b, ki', f', s', t') → wpX_append post (nI m, l, rg, w, b, ki, f, s, t) k a1 a2 a3) ∧
      (∀ post : Int32 → SY → Prop, post r (nI m', l, ki', f', s', t', rg, w, b) → wpY_append post (nI m, l, ki, f, s, t, rg, w, b) k a1 a2 a3) := by
  have hc : (nI m).toNatClampNeg = m := nI_clamp (by omega)
  by_cases h : m < 14
  · have hv : vp_in (nI m) 14 := vp_in_nI h (by decide)
    have hX : nI m < (14 : Int32) := nI_lt (b := 14) h (by decide)
    have hY : ¬ nI m = (14 : Int32) := fun z => by
      have z' : nI m = nI 14 := z
      rw [nI_eq (by omega) (by decide)] at z'
      omega
    refine ⟨nI m, m + 1, upd ki m k, upd f m a1, upd s m a2, upd t m a3, by omega, ?_, ?_, ?_⟩
    · intro j hj
      by_cases e : j = m
      · subst e
        rw [sl_us, sl_us, sl_us, sl_us]; exact hi
      · rw [sl_un e, sl_un e, sl_un e, sl_un e]; exact hp j (by omega)
    · intro post hq
      unfold wpX_append; dsimp only; rw [hc]
      exact br_t hX ⟨hv, nm_e ⟨hv, nm_e ⟨hv, nm_e ⟨hv, nm_e (nm_r (nI_1 m) hq)⟩⟩⟩⟩
    · intro post hq
      unfold wpY_append; dsimp only; rw [hc]
      refine br_f hY ⟨hv, nm_e ⟨hv, nm_e ⟨hv, nm_e ⟨hv, nm_e (nm_r (nI_1 m) ?_)⟩⟩⟩⟩
      rw [nI_pred]; exact hq
  · have e : m = 14 := by omega
    subst e
    have hX : ¬ nI 14 < (14 : Int32) := nI_nlt (b := 14) (by omega) (by decide)
    refine ⟨-2, 14, ki, f, s, t, hm, hp, fun post hq => ?_, fun post hq => ?_⟩
    · unfold wpX_append; dsimp only
      exact br_f hX hq
    · unfold wpY_append; dsimp only
      exact br_t rfl hq
