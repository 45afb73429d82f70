section
/-- what an instruction must keep so that a run may use its operands as indexes -/
def sl_in (k a b c : Int32) : Prop :=
  (k = 0 ∧ vp_in a 8) ∨ (k = 1 ∧ vp_in a 8 ∧ vp_in b 8 ∧ vp_in c 8) ∨ (k = 2 ∧ vp_in a 8 ∧ vp_in b 8 ∧ vp_in c 8) ∨
  (k = 3 ∧ vp_in a 8 ∧ vp_in b 8) ∨ (k = 4 ∧ vp_in a 8 ∧ vp_in c 8) ∨ (k = 5 ∧ vp_in a 8)
/-- the first m instructions keep it -/
def sl_p (m : Nat) (ki f s t : Nat → Int32) : Prop := ∀ j : Nat, j < m → sl_in (ki j) (f j) (s j) (t j)
theorem sl_10 : ¬ (1 : Int32) = 0 := by decide
theorem sl_us {f : Nat → Int32} {k : Nat} {x : Int32} : upd f k x k = x := by simp [upd]
theorem sl_un {f : Nat → Int32} {k j : Nat} {x : Int32} (h : j ≠ k) : upd f k x j = f j := by simp [upd, h]
theorem sl_reg (p : Int32) : ∃ r : Int32, (r = 0 ∨ (r = 1 ∧ vp_in p 8)) ∧ (∀ post : Int32 → Prop, post r → wpX_isRegister post p) ∧ (∀ (post : Int32 → Prop) (c l : Int32) (ki f s t rg w b : Nat → Int32), post r → wpY_isRegister post (c, l, ki, f, s, t, rg, w, b) p) := by
  by_cases h0 : p < 0
  · exact ⟨0, Or.inl rfl, fun _ hp => br_t h0 hp, fun _ _ _ _ _ _ _ _ _ _ hp => br_t h0 hp⟩
  · obtain ⟨j, hj, rfl⟩ := nI_of h0
    by_cases h8 : j < 8
    · have hX : ¬ (8 : Int32) ≤ nI j := nI_ge (b := 8) h8 (by decide)
      have hY : ¬ (7 : Int32) < nI j := nI_nlt (b := j) (a := 7) (by omega) (by decide)
      exact ⟨1, Or.inr ⟨rfl, vp_in_nI h8 (by decide)⟩, fun _ hp => br_f h0 (br_f hX hp), fun _ _ _ _ _ _ _ _ _ _ hp => br_f h0 (br_f hY hp)⟩
    · have hX : (8 : Int32) ≤ nI j := nI_le (a := 8) (by omega) hj
      have hY : (7 : Int32) < nI j := nI_lt (a := 7) (by omega) hj
      exact ⟨0, Or.inl rfl, fun _ hp => br_f h0 (br_t hX hp), fun _ _ _ _ _ _ _ _ _ _ hp => br_f h0 (br_t hY hp)⟩
theorem sl_adr (p : Int32) : ∃ r : Int32, (r = 0 ∨ (r = 1 ∧ vp_in p 16)) ∧ (∀ post : Int32 → Prop, post r → wpX_isAddress post p) ∧ (∀ (post : Int32 → Prop) (c l : Int32) (ki f s t rg w b : Nat → Int32), post r → wpY_isAddress post (c, l, ki, f, s, t, rg, w, b) p) := by
  by_cases h0 : p < 0
  · exact ⟨0, Or.inl rfl, fun _ hp => br_t h0 hp, fun _ _ _ _ _ _ _ _ _ _ hp => br_t h0 hp⟩
  · obtain ⟨j, hj, rfl⟩ := nI_of h0
    by_cases h8 : j < 16
    · have hX : ¬ (16 : Int32) ≤ nI j := nI_ge (b := 16) h8 (by decide)
      have hY : ¬ (15 : Int32) < nI j := nI_nlt (b := j) (a := 15) (by omega) (by decide)
      exact ⟨1, Or.inr ⟨rfl, vp_in_nI h8 (by decide)⟩, fun _ hp => br_f h0 (br_f hX hp), fun _ _ _ _ _ _ _ _ _ _ hp => br_f h0 (br_f hY hp)⟩
    · have hX : (16 : Int32) ≤ nI j := nI_le (a := 16) (by omega) hj
      have hY : (15 : Int32) < nI j := nI_lt (a := 15) (by omega) hj
      exact ⟨0, Or.inl rfl, fun _ hp => br_f h0 (br_t hX hp), fun _ _ _ _ _ _ _ _ _ _ hp => br_f h0 (br_t hY hp)⟩
/-- one append on both sides: one answer, one program again -/
theorem sl_app {m : Nat} {ki f s t : Nat → Int32} (l : Int32) (rg w b : Nat → Int32) (hm : m ≤ 14) (hp : sl_p m ki f s t) (k a1 a2 a3 : Int32) (hi : sl_in k a1 a2 a3) :
    ∃ (r : Int32) (m' : Nat) (ki' f' s' t' : Nat → Int32), m' ≤ 14 ∧ sl_p m' ki' f' s' t' ∧
      (∀ post : Int32 → SX → Prop, post r (nI m', l, rg, w, b, ki', f', s', t') → wpX_append post (nI m, l, rg, w, b, ki, f, s, t) k a1 a2 a3) ∧
      (∀ post : Int32 → SY → Prop, post r (nI m', l, ki', f', s', t', rg, w, b) → wpY_append post (nI m, l, ki, f, s, t, rg, w, b) k a1 a2 a3) := by
  have hc : (nI m).toNatClampNeg = m := nI_clamp (by omega)
  by_cases h : m < 14
  · have hv : vp_in (nI m) 14 := vp_in_nI h (by decide)
    have hX : nI m < (14 : Int32) := nI_lt (b := 14) h (by decide)
    have hY : ¬ nI m = (14 : Int32) := fun z => by
      have z' : nI m = nI 14 := z
      rw [nI_eq (by omega) (by decide)] at z'
      omega
    refine ⟨nI m, m + 1, upd ki m k, upd f m a1, upd s m a2, upd t m a3, by omega, ?_, ?_, ?_⟩
    · intro j hj
      by_cases e : j = m
      · subst e
        rw [sl_us, sl_us, sl_us, sl_us]; exact hi
      · rw [sl_un e, sl_un e, sl_un e, sl_un e]; exact hp j (by omega)
    · intro post hq
      unfold wpX_append; dsimp only; rw [hc]
      exact br_t hX ⟨hv, nm_e ⟨hv, nm_e ⟨hv, nm_e ⟨hv, nm_e (nm_r (nI_1 m) hq)⟩⟩⟩⟩
    · intro post hq
      unfold wpY_append; dsimp only; rw [hc]
      refine br_f hY ⟨hv, nm_e ⟨hv, nm_e ⟨hv, nm_e ⟨hv, nm_e (nm_r (nI_1 m) ?_)⟩⟩⟩⟩
      rw [nI_pred]; exact hq
  · have e : m = 14 := by omega
    subst e
    have hX : ¬ nI 14 < (14 : Int32) := nI_nlt (b := 14) (by omega) (by decide)
    refine ⟨-2, 14, ki, f, s, t, hm, hp, fun post hq => ?_, fun post hq => ?_⟩
    · unfold wpX_append; dsimp only
      exact br_f hX hq
    · unfold wpY_append; dsimp only
      exact br_t rfl hq
end
section
/-- an address is open on both sides, or a fault on both -/
theorem sl_open (b : Nat → Int32) (x : Int32) :
    (vp_in x 16 ∧ b x.toNatClampNeg = 0 ∧
      (∀ (post : Int32 → Prop) (c l : Int32) (rg w ki f s t : Nat → Int32), post 1 → wpX_isOpen post (c, l, rg, w, b, ki, f, s, t) x) ∧
      (∀ (post : Int32 → Prop) (c l : Int32) (ki f s t rg w b : Nat → Int32), post 1 → wpY_isAddress post (c, l, ki, f, s, t, rg, w, b) x)) ∨
    ((∀ (post : Int32 → Prop) (c l : Int32) (rg w ki f s t : Nat → Int32), post 0 → wpX_isOpen post (c, l, rg, w, b, ki, f, s, t) x) ∧
      (∀ (post : Int32 → SY → Prop) (x1 x2 x4 c l : Int32) (ki f s t rg w : Nat → Int32), post 2 (c, l, ki, f, s, t, rg, w, b) → wY_execute_159 post x1 x2 x4 x c l ki f s t rg w b)) := by
  obtain ⟨r, hr, hX, hY⟩ := sl_adr x
  rcases hr with rfl | ⟨rfl, hv⟩
  · refine Or.inr ⟨?_, ?_⟩
    · intro post c l rg w ki f s t hq
      unfold wpX_isOpen; dsimp only
      exact hX _ (br_t rfl hq)
    · intro post x1 x2 x4 c l ki f s t rg w hq
      unfold wY_execute_159
      exact hY _ _ _ _ _ _ _ _ _ _ (br_t rfl hq)
  · by_cases z : b x.toNatClampNeg = 0
    · refine Or.inl ⟨hv, z, ?_, hY⟩
      intro post c l rg w ki f s t hq
      unfold wpX_isOpen; dsimp only
      exact hX _ (br_f sl_10 ⟨hv, br_t z hq⟩)
    · refine Or.inr ⟨?_, ?_⟩
      · intro post c l rg w ki f s t hq
        unfold wpX_isOpen; dsimp only
        exact hX _ (br_f sl_10 ⟨hv, br_f z hq⟩)
      · intro post x1 x2 x4 c l ki f s t rg w hq
        unfold wY_execute_159
        exact hY _ _ _ _ _ _ _ _ _ _ (br_f sl_10 ⟨hv, br_f z hq⟩)
/-- what one instruction does, on both sides -/
def sl_E (c : Int32) (b ki f s t : Nat → Int32) (l l' : Int32) (j : Int32) (rg w : Nat → Int32) (r : Int32) (rg' w' : Nat → Int32) : Prop :=
  (∀ post : Int32 → SX → Prop, post r (c, l, rg', w', b, ki, f, s, t) → wpX_execute post (c, l, rg, w, b, ki, f, s, t) j) ∧
  (∀ post : Int32 → SY → Prop, post r (c, l', ki, f, s, t, rg', w', b) → wpY_execute post (c, l', ki, f, s, t, rg, w, b) j)
section
variable {j : Nat} {ki f s t : Nat → Int32} (c l l' : Int32) (rg w b : Nat → Int32)
theorem sl_e0 (hj : j < 14) (hk : ki j = 0) (h1 : vp_in (f j) 8) : sl_E c b ki f s t l l' (nI j) rg w 0 (upd rg (f j).toNatClampNeg (s j)) w := by
  have hv : vp_in (nI j) 14 := vp_in_nI hj (by decide)
  have hc : (nI j).toNatClampNeg = j := nI_clamp (by omega)
  refine ⟨fun post hq => ?_, fun post hq => ?_⟩
  · unfold wpX_execute; dsimp only; rw [hc]
    exact ⟨hv, nm_e ⟨hv, nm_e ⟨hv, nm_e ⟨hv, nm_r hk (br_f (by decide) (br_f (by decide) (br_t rfl ⟨h1, nm_e hq⟩)))⟩⟩⟩⟩
  · unfold wpY_execute; dsimp only; rw [hc]
    exact ⟨hv, nm_e ⟨hv, nm_e ⟨hv, nm_e ⟨hv, br_t hk ⟨h1, nm_e hq⟩⟩⟩⟩⟩
theorem sl_e1 (hj : j < 14) (hk : ki j = 1) (h1 : vp_in (f j) 8) (h2 : vp_in (s j) 8) (h3 : vp_in (t j) 8) : sl_E c b ki f s t l l' (nI j) rg w 0 (upd rg (f j).toNatClampNeg (rg (s j).toNatClampNeg + rg (t j).toNatClampNeg)) w := by
  have hv : vp_in (nI j) 14 := vp_in_nI hj (by decide)
  have hc : (nI j).toNatClampNeg = j := nI_clamp (by omega)
  have n0 : ¬ ki j = 0 := by rw [hk]; decide
  refine ⟨fun post hq => ?_, fun post hq => ?_⟩
  · unfold wpX_execute; dsimp only; rw [hc]
    exact ⟨hv, nm_e ⟨hv, nm_e ⟨hv, nm_e ⟨hv, nm_r hk (br_f (by decide) (br_f (by decide) (br_f (by decide) (br_t rfl ⟨h2, h3, h1, nm_e hq⟩))))⟩⟩⟩⟩
  · unfold wpY_execute; dsimp only; rw [hc]
    exact ⟨hv, nm_e ⟨hv, nm_e ⟨hv, nm_e ⟨hv, br_f n0 ⟨hv, br_t hk ⟨h2, h3, h1, nm_e hq⟩⟩⟩⟩⟩⟩
theorem sl_e2 (hj : j < 14) (hk : ki j = 2) (h1 : vp_in (f j) 8) (h2 : vp_in (s j) 8) (h3 : vp_in (t j) 8) : sl_E c b ki f s t l l' (nI j) rg w 0 (upd rg (f j).toNatClampNeg (rg (s j).toNatClampNeg - rg (t j).toNatClampNeg)) w := by
  have hv : vp_in (nI j) 14 := vp_in_nI hj (by decide)
  have hc : (nI j).toNatClampNeg = j := nI_clamp (by omega)
  have n0 : ¬ ki j = 0 := by rw [hk]; decide
  have n1 : ¬ ki j = 1 := by rw [hk]; decide
  refine ⟨fun post hq => ?_, fun post hq => ?_⟩
  · unfold wpX_execute; dsimp only; rw [hc]
    exact ⟨hv, nm_e ⟨hv, nm_e ⟨hv, nm_e ⟨hv, nm_r hk (br_f (by decide) (br_f (by decide) (br_f (by decide) (br_f (by decide) (br_t rfl ⟨h2, h3, h1, nm_e hq⟩)))))⟩⟩⟩⟩
  · unfold wpY_execute; dsimp only; rw [hc]
    exact ⟨hv, nm_e ⟨hv, nm_e ⟨hv, nm_e ⟨hv, br_f n0 ⟨hv, br_f n1 ⟨hv, br_t hk ⟨h2, h3, h1, nm_e hq⟩⟩⟩⟩⟩⟩⟩
theorem sl_e5 (hj : j < 14) (hk : ki j = 5) (h1 : vp_in (f j) 8) : ∃ r : Int32, sl_E c b ki f s t l l' (nI j) rg w r rg w := by
  have hv : vp_in (nI j) 14 := vp_in_nI hj (by decide)
  have hc : (nI j).toNatClampNeg = j := nI_clamp (by omega)
  have n0 : ¬ ki j = 0 := by rw [hk]; decide
  have n1 : ¬ ki j = 1 := by rw [hk]; decide
  have n2 : ¬ ki j = 2 := by rw [hk]; decide
  by_cases z : rg (f j).toNatClampNeg = 0
  · refine ⟨0, fun post hq => ?_, fun post hq => ?_⟩
    · unfold wpX_execute; dsimp only; rw [hc]
      exact ⟨hv, nm_e ⟨hv, nm_e ⟨hv, nm_e ⟨hv, nm_r hk (br_f (by decide) (br_t (by decide) ⟨h1, br_t z hq⟩))⟩⟩⟩⟩
    · unfold wpY_execute; dsimp only; rw [hc]
      exact ⟨hv, nm_e ⟨hv, nm_e ⟨hv, nm_e ⟨hv, br_f n0 ⟨hv, br_f n1 ⟨hv, br_f n2 ⟨hv, br_t hk ⟨h1, br_t z hq⟩⟩⟩⟩⟩⟩⟩⟩
  · refine ⟨1, fun post hq => ?_, fun post hq => ?_⟩
    · unfold wpX_execute; dsimp only; rw [hc]
      exact ⟨hv, nm_e ⟨hv, nm_e ⟨hv, nm_e ⟨hv, nm_r hk (br_f (by decide) (br_t (by decide) ⟨h1, br_f z hq⟩))⟩⟩⟩⟩
    · unfold wpY_execute; dsimp only; rw [hc]
      exact ⟨hv, nm_e ⟨hv, nm_e ⟨hv, nm_e ⟨hv, br_f n0 ⟨hv, br_f n1 ⟨hv, br_f n2 ⟨hv, br_t hk ⟨h1, br_f z hq⟩⟩⟩⟩⟩⟩⟩⟩
theorem sl_e3 (hj : j < 14) (hk : ki j = 3) (h1 : vp_in (f j) 8) (h2 : vp_in (s j) 8) : ∃ (r : Int32) (rg' : Nat → Int32), sl_E c b ki f s t l l' (nI j) rg w r rg' w := by
  have hv : vp_in (nI j) 14 := vp_in_nI hj (by decide)
  have hc : (nI j).toNatClampNeg = j := nI_clamp (by omega)
  have n0 : ¬ ki j = 0 := by rw [hk]; decide
  have n1 : ¬ ki j = 1 := by rw [hk]; decide
  have n2 : ¬ ki j = 2 := by rw [hk]; decide
  have n5 : ¬ ki j = 5 := by rw [hk]; decide
  rcases sl_open b (rg (s j).toNatClampNeg + t j) with ⟨ho, hz, hX, hY⟩ | ⟨hX, hY⟩
  · refine ⟨0, upd rg (f j).toNatClampNeg (w (rg (s j).toNatClampNeg + t j).toNatClampNeg), fun post hq => ?_, fun post hq => ?_⟩
    · unfold wpX_execute; dsimp only; rw [hc]
      refine ⟨hv, nm_e ⟨hv, nm_e ⟨hv, nm_e ⟨hv, nm_r hk (br_f (by decide) (br_f (by decide) (br_f (by decide) (br_f (by decide) (br_f (by decide) (br_t rfl ?_))))))⟩⟩⟩⟩
      unfold wpX_executeLoad; dsimp only
      exact ⟨h2, nm_e (hX _ _ _ _ _ _ _ _ _ (br_f sl_10 ⟨ho, h1, nm_e hq⟩))⟩
    · unfold wpY_execute; dsimp only; rw [hc]
      refine ⟨hv, nm_e ⟨hv, nm_e ⟨hv, nm_e ⟨hv, br_f n0 ⟨hv, br_f n1 ⟨hv, br_f n2 ⟨hv, br_f n5 ⟨hv, br_t hk ⟨h2, ?_⟩⟩⟩⟩⟩⟩⟩⟩⟩
      unfold wY_execute_159; rw [hc]
      exact hY _ _ _ _ _ _ _ _ _ _ (br_f sl_10 ⟨ho, br_t hz ⟨hv, br_t hk ⟨ho, h1, nm_e hq⟩⟩⟩)
  · refine ⟨2, rg, fun post hq => ?_, fun post hq => ?_⟩
    · unfold wpX_execute; dsimp only; rw [hc]
      refine ⟨hv, nm_e ⟨hv, nm_e ⟨hv, nm_e ⟨hv, nm_r hk (br_f (by decide) (br_f (by decide) (br_f (by decide) (br_f (by decide) (br_f (by decide) (br_t rfl ?_))))))⟩⟩⟩⟩
      unfold wpX_executeLoad; dsimp only
      exact ⟨h2, nm_e (hX _ _ _ _ _ _ _ _ _ (br_t rfl hq))⟩
    · unfold wpY_execute; dsimp only; rw [hc]
      exact ⟨hv, nm_e ⟨hv, nm_e ⟨hv, nm_e ⟨hv, br_f n0 ⟨hv, br_f n1 ⟨hv, br_f n2 ⟨hv, br_f n5 ⟨hv, br_t hk ⟨h2, hY _ _ _ _ _ _ _ _ _ _ _ _ hq⟩⟩⟩⟩⟩⟩⟩⟩⟩
theorem sl_e4 (hj : j < 14) (hk : ki j = 4) (h1 : vp_in (f j) 8) (h3 : vp_in (t j) 8) : ∃ (r : Int32) (w' : Nat → Int32), sl_E c b ki f s t l l' (nI j) rg w r rg w' := by
  have hv : vp_in (nI j) 14 := vp_in_nI hj (by decide)
  have hc : (nI j).toNatClampNeg = j := nI_clamp (by omega)
  have n0 : ¬ ki j = 0 := by rw [hk]; decide
  have n1 : ¬ ki j = 1 := by rw [hk]; decide
  have n2 : ¬ ki j = 2 := by rw [hk]; decide
  have n5 : ¬ ki j = 5 := by rw [hk]; decide
  have n3 : ¬ ki j = 3 := by rw [hk]; decide
  rcases sl_open b (rg (f j).toNatClampNeg + s j) with ⟨ho, hz, hX, hY⟩ | ⟨hX, hY⟩
  · refine ⟨0, upd w (rg (f j).toNatClampNeg + s j).toNatClampNeg (rg (t j).toNatClampNeg), fun post hq => ?_, fun post hq => ?_⟩
    · unfold wpX_execute; dsimp only; rw [hc]
      refine ⟨hv, nm_e ⟨hv, nm_e ⟨hv, nm_e ⟨hv, nm_r hk (br_f (by decide) (br_f (by decide) (br_f (by decide) (br_f (by decide) (br_f (by decide) (br_f (by decide) (br_t rfl ?_)))))))⟩⟩⟩⟩
      unfold wpX_executeStore; dsimp only
      exact ⟨h1, nm_e (hX _ _ _ _ _ _ _ _ _ (br_f sl_10 ⟨h3, ho, nm_e hq⟩))⟩
    · unfold wpY_execute; dsimp only; rw [hc]
      refine ⟨hv, nm_e ⟨hv, nm_e ⟨hv, nm_e ⟨hv, br_f n0 ⟨hv, br_f n1 ⟨hv, br_f n2 ⟨hv, br_f n5 ⟨hv, br_f n3 ⟨h1, ?_⟩⟩⟩⟩⟩⟩⟩⟩⟩
      unfold wY_execute_159; rw [hc]
      exact hY _ _ _ _ _ _ _ _ _ _ (br_f sl_10 ⟨ho, br_t hz ⟨hv, br_f n3 ⟨h3, ho, nm_e hq⟩⟩⟩)
  · refine ⟨2, w, fun post hq => ?_, fun post hq => ?_⟩
    · unfold wpX_execute; dsimp only; rw [hc]
      refine ⟨hv, nm_e ⟨hv, nm_e ⟨hv, nm_e ⟨hv, nm_r hk (br_f (by decide) (br_f (by decide) (br_f (by decide) (br_f (by decide) (br_f (by decide) (br_f (by decide) (br_t rfl ?_)))))))⟩⟩⟩⟩
      unfold wpX_executeStore; dsimp only
      exact ⟨h1, nm_e (hX _ _ _ _ _ _ _ _ _ (br_t rfl hq))⟩
    · unfold wpY_execute; dsimp only; rw [hc]
      exact ⟨hv, nm_e ⟨hv, nm_e ⟨hv, nm_e ⟨hv, br_f n0 ⟨hv, br_f n1 ⟨hv, br_f n2 ⟨hv, br_f n5 ⟨hv, br_f n3 ⟨h1, hY _ _ _ _ _ _ _ _ _ _ _ _ hq⟩⟩⟩⟩⟩⟩⟩⟩⟩
end
/-- one instruction on both sides: one ending, the same registers and words -/
theorem sl_exec {m j : Nat} {ki f s t : Nat → Int32} (c l l' : Int32) (rg w b : Nat → Int32) (hm : m ≤ 14) (hp : sl_p m ki f s t) (hj : j < m) :
    ∃ (r : Int32) (rg' w' : Nat → Int32), sl_E c b ki f s t l l' (nI j) rg w r rg' w' := by
  have h14 : j < 14 := by omega
  rcases hp j hj with ⟨hk, h1⟩ | ⟨hk, h1, h2, h3⟩ | ⟨hk, h1, h2, h3⟩ | ⟨hk, h1, h2⟩ | ⟨hk, h1, h3⟩ | ⟨hk, h1⟩
  · exact ⟨_, _, _, sl_e0 c l l' rg w b h14 hk h1⟩
  · exact ⟨_, _, _, sl_e1 c l l' rg w b h14 hk h1 h2 h3⟩
  · exact ⟨_, _, _, sl_e2 c l l' rg w b h14 hk h1 h2 h3⟩
  · obtain ⟨r, rg', h⟩ := sl_e3 c l l' rg w b h14 hk h1 h2
    exact ⟨r, rg', w, h⟩
  · obtain ⟨r, w', h⟩ := sl_e4 c l l' rg w b h14 hk h1 h3
    exact ⟨r, rg, w', h⟩
  · obtain ⟨r, h⟩ := sl_e5 c l l' rg w b h14 hk h1
    exact ⟨r, rg, w, h⟩
end
section
section
variable {m : Nat} {ki f s t : Nat → Int32} (b : Nat → Int32)
/-- the two loops of a run, step by step: the component's local answer is the reference's field -/
theorem sl_loop (l : Int32) (hm : m ≤ 14) (hp : sl_p m ki f s t) : ∀ (d j : Nat) (x : Int32) (rg w : Nat → Int32), j + d = m →
    ∃ (r : Int32) (rg' w' : Nat → Int32),
      (∀ (post : Int32 → SX → Prop), post r (nI m, r, rg', w', b, ki, f, s, t) → wX_run_4 post (d + 1) x (nI j) (nI m) l rg w b ki f s t) ∧
      (∀ (post : Int32 → SY → Prop), post r (nI m, r, ki, f, s, t, rg', w', b) → wY_run_7 post (d + 1) (nI j) (nI m) x ki f s t rg w b) := by
  intro d
  induction d with
  | zero =>
    intro j x rg w hj
    have h : nI m ≤ nI j := nI_le (by omega) (by omega)
    exact ⟨x, rg, w, fun _ hq => br_t h hq, fun _ hq => br_t h hq⟩
  | succ d ih =>
    intro j x rg w hj
    have h : ¬ nI m ≤ nI j := nI_ge (by omega) (by omega)
    by_cases z : x = 0
    · obtain ⟨e, rg1, w1, hX, hY⟩ := sl_exec (nI m) l x rg w b hm hp (j := j) (by omega)
      by_cases ze : e = 0
      · obtain ⟨r, rg2, w2, hX2, hY2⟩ := ih (j + 1) x rg1 w1 (by omega)
        refine ⟨r, rg2, w2, fun post hq => ?_, fun post hq => ?_⟩
        · rw [wX_run_4]
          exact br_f h (br_t z (hX _ (br_t ze (nm_r (nI_1 j) (hX2 post hq)))))
        · rw [wY_run_7]
          exact br_f h (br_t z (hY _ (br_t ze (nm_r (nI_1 j) (hY2 post hq)))))
      · obtain ⟨r, rg2, w2, hX2, hY2⟩ := ih (j + 1) (e + 4 * nI j) rg1 w1 (by omega)
        refine ⟨r, rg2, w2, fun post hq => ?_, fun post hq => ?_⟩
        · rw [wX_run_4]
          exact br_f h (br_t z (hX _ (br_f ze (nm_e (nm_r (nI_1 j) (hX2 post hq))))))
        · rw [wY_run_7]
          exact br_f h (br_t z (hY _ (br_f ze (nm_e (nm_r (nI_1 j) (hY2 post hq))))))
    · exact ⟨x, rg, w, fun _ hq => br_f h (br_f z hq), fun _ hq => br_f h (br_f z hq)⟩
/-- one run on both sides -/
theorem sl_run (l l' : Int32) (rg w : Nat → Int32) (hm : m ≤ 14) (hp : sl_p m ki f s t) :
    ∃ (r : Int32) (rg' w' : Nat → Int32),
      (∀ (post : Int32 → SX → Prop), post r (nI m, r, rg', w', b, ki, f, s, t) → wpX_run post (nI m, l, rg, w, b, ki, f, s, t)) ∧
      (∀ (post : Int32 → SY → Prop), post r (nI m, r, ki, f, s, t, rg', w', b) → wpY_run post (nI m, l', ki, f, s, t, rg, w, b)) := by
  obtain ⟨r, rg', w', hX, hY⟩ := sl_loop b l hm hp m 0 0 rg w (by omega)
  rw [nI_0] at hX hY
  exact ⟨r, rg', w', fun post hq => ⟨m + 1, hX post hq⟩, fun post hq => ⟨m + 1, hY post hq⟩⟩
/-- the two loops of a repeat: the component's flag falls when the reference's ending isn't 0 -/
theorem sl_rep (q : Nat) (hq8 : q ≤ 8) (hm : m ≤ 14) (hp : sl_p m ki f s t) : ∀ (d j : Nat) (g e l : Int32) (rg w : Nat → Int32), j + d = q → (g = 0 ↔ ¬ e = 0) →
    ∃ (r l' : Int32) (rg' w' : Nat → Int32),
      (∀ (post : Int32 → SX → Prop), post r (nI m, l', rg', w', b, ki, f, s, t) → wX_repeat_18 post (nI q) (d + 1) (nI j) g (nI m) l rg w b ki f s t) ∧
      (∀ (post : Int32 → SY → Prop), post r (nI m, l', ki, f, s, t, rg', w', b) → wY_repeat_26 post (nI q) (d + 1) (nI j) e (nI m) l ki f s t rg w b) := by
  intro d
  induction d with
  | zero =>
    intro j g e l rg w hj hg
    have h : nI q ≤ nI j := nI_le (by omega) (by omega)
    refine ⟨nI j, l, rg, w, fun _ hq => ?_, fun _ hq => br_t h hq⟩
    rw [wX_repeat_18]
    exact br_c (fun _ => hq) (fun _ => br_t h hq)
  | succ d ih =>
    intro j g e l rg w hj hg
    have h : ¬ nI q ≤ nI j := nI_ge (by omega) (by omega)
    by_cases z : e = 0
    · have zg : ¬ g = 0 := fun y => hg.mp y z
      obtain ⟨x, rg1, w1, hX, hY⟩ := sl_run b l l rg w hm hp
      by_cases zx : x = 0
      · obtain ⟨r, l2, rg2, w2, hX2, hY2⟩ := ih (j + 1) 1 x x rg1 w1 (by omega) ⟨fun y => absurd y sl_10, fun y => absurd zx y⟩
        refine ⟨r, l2, rg2, w2, fun post hq => ?_, fun post hq => ?_⟩
        · rw [wX_repeat_18]
          exact br_f zg (br_f h (hX _ (br_t zx (nm_r (nI_1 j) (hX2 post hq)))))
        · rw [wY_repeat_26]
          exact br_f h (br_t z (hY _ (nm_r (nI_1 j) (hY2 post hq))))
      · obtain ⟨r, l2, rg2, w2, hX2, hY2⟩ := ih (j + 1) 0 x x rg1 w1 (by omega) ⟨fun _ => zx, fun _ => rfl⟩
        refine ⟨r, l2, rg2, w2, fun post hq => ?_, fun post hq => ?_⟩
        · rw [wX_repeat_18]
          exact br_f zg (br_f h (hX _ (br_f zx (nm_r (nI_1 j) (hX2 post hq)))))
        · rw [wY_repeat_26]
          exact br_f h (br_t z (hY _ (nm_r (nI_1 j) (hY2 post hq))))
    · have zg : g = 0 := hg.mpr z
      exact ⟨nI j, l, rg, w, fun _ hq => br_t zg hq, fun _ hq => br_f h (br_f z hq)⟩
end
end
section
/-- the same registers, words, bars, last answer and program on both sides; the program's operands are in range -/
def i_Rel (_k : Nat) (u : SX) (v : SY) : Prop :=
  ∃ (m : Nat) (l : Int32) (rg w b ki f s t : Nat → Int32), u = (nI m, l, rg, w, b, ki, f, s, t) ∧ v = (nI m, l, ki, f, s, t, rg, w, b) ∧ m ≤ 14 ∧ sl_p m ki f s t
theorem i_up {k : Nat} {u : SX} {v : SY} (h : i_Rel k u v) : i_Rel (k + 4) u v := h
theorem i_vc0 : wpX_init (fun u => wpY_init (fun v => i_Rel 0 u v)) :=
  ⟨0, -1, fun _ => 0, fun _ => 0, fun _ => 0, fun _ => 0, fun _ => 0, fun _ => 0, fun _ => 0, rfl, rfl, by decide, fun _ h => absurd h (Nat.not_lt_zero _)⟩
theorem i_vc_constant {k : Nat} {u : SX} {v : SY} (I : i_Rel k u v) (hk : k + 4 ≤ 2048) (v1 : Int32) (v2 : Int32) : wpX_constant (fun r u' => wpY_constant (fun r' v' => r' = r ∧ i_Rel (k + 4) u' v') v v1 v2) u v1 v2 := by
  obtain ⟨m, l, rg, w, b, ki, f, s, t, rfl, rfl, hm, hp⟩ := I
  have J : i_Rel (k + 4) (nI m, l, rg, w, b, ki, f, s, t) (nI m, l, ki, f, s, t, rg, w, b) := ⟨m, l, rg, w, b, ki, f, s, t, rfl, rfl, hm, hp⟩
  obtain ⟨r1, c1, X1, Y1⟩ := sl_reg v1
  unfold wpX_constant wpY_constant; dsimp only
  rcases c1 with rfl | ⟨rfl, h1⟩
  · exact X1 _ (br_t rfl (Y1 _ _ _ _ _ _ _ _ _ _ (br_t rfl ⟨rfl, J⟩)))
  · obtain ⟨r, m', ki', f', s', t', hm', hp', XA, YA⟩ := sl_app l rg w b hm hp 0 v1 v2 0 (Or.inl ⟨rfl, h1⟩)
    exact X1 _ (br_f sl_10 (XA _ (Y1 _ _ _ _ _ _ _ _ _ _ (br_f sl_10 (YA _ ⟨rfl, m', l, rg, w, b, ki', f', s', t', rfl, rfl, hm', hp'⟩)))))
theorem i_vc_add {k : Nat} {u : SX} {v : SY} (I : i_Rel k u v) (hk : k + 4 ≤ 2048) (v1 : Int32) (v2 : Int32) (v3 : Int32) : wpX_add (fun r u' => wpY_add (fun r' v' => r' = r ∧ i_Rel (k + 4) u' v') v v1 v2 v3) u v1 v2 v3 := by
  obtain ⟨m, l, rg, w, b, ki, f, s, t, rfl, rfl, hm, hp⟩ := I
  have J : i_Rel (k + 4) (nI m, l, rg, w, b, ki, f, s, t) (nI m, l, ki, f, s, t, rg, w, b) := ⟨m, l, rg, w, b, ki, f, s, t, rfl, rfl, hm, hp⟩
  obtain ⟨r1, c1, X1, Y1⟩ := sl_reg v1
  obtain ⟨r2, c2, X2, Y2⟩ := sl_reg v2
  obtain ⟨r3, c3, X3, Y3⟩ := sl_reg v3
  unfold wpX_add wpX_appendArithmetic wpY_add; dsimp only
  rcases c1 with rfl | ⟨rfl, h1⟩
  · exact X1 _ (br_t rfl (Y1 _ _ _ _ _ _ _ _ _ _ (br_t rfl ⟨rfl, J⟩)))
  · rcases c2 with rfl | ⟨rfl, h2⟩
    · exact X1 _ (br_f sl_10 (X2 _ (br_t rfl (Y1 _ _ _ _ _ _ _ _ _ _ (br_f sl_10 (Y2 _ _ _ _ _ _ _ _ _ _ (br_t rfl ⟨rfl, J⟩)))))))
    · rcases c3 with rfl | ⟨rfl, h3⟩
      · exact X1 _ (br_f sl_10 (X2 _ (br_f sl_10 (X3 _ (br_t rfl (Y1 _ _ _ _ _ _ _ _ _ _ (br_f sl_10 (Y2 _ _ _ _ _ _ _ _ _ _ (br_f sl_10 (Y3 _ _ _ _ _ _ _ _ _ _ (br_t rfl ⟨rfl, J⟩)))))))))))
      · obtain ⟨r, m', ki', f', s', t', hm', hp', XA, YA⟩ := sl_app l rg w b hm hp 1 v1 v2 v3 (Or.inr (Or.inl ⟨rfl, h1, h2, h3⟩))
        exact X1 _ (br_f sl_10 (X2 _ (br_f sl_10 (X3 _ (br_f sl_10 (XA _ (Y1 _ _ _ _ _ _ _ _ _ _ (br_f sl_10 (Y2 _ _ _ _ _ _ _ _ _ _ (br_f sl_10 (Y3 _ _ _ _ _ _ _ _ _ _ (br_f sl_10 (YA _ ⟨rfl, m', l, rg, w, b, ki', f', s', t', rfl, rfl, hm', hp'⟩)))))))))))))
theorem i_vc_subtract {k : Nat} {u : SX} {v : SY} (I : i_Rel k u v) (hk : k + 4 ≤ 2048) (v1 : Int32) (v2 : Int32) (v3 : Int32) : wpX_subtract (fun r u' => wpY_subtract (fun r' v' => r' = r ∧ i_Rel (k + 4) u' v') v v1 v2 v3) u v1 v2 v3 := by
  obtain ⟨m, l, rg, w, b, ki, f, s, t, rfl, rfl, hm, hp⟩ := I
  have J : i_Rel (k + 4) (nI m, l, rg, w, b, ki, f, s, t) (nI m, l, ki, f, s, t, rg, w, b) := ⟨m, l, rg, w, b, ki, f, s, t, rfl, rfl, hm, hp⟩
  obtain ⟨r1, c1, X1, Y1⟩ := sl_reg v1
  obtain ⟨r2, c2, X2, Y2⟩ := sl_reg v2
  obtain ⟨r3, c3, X3, Y3⟩ := sl_reg v3
  unfold wpX_subtract wpX_appendArithmetic wpY_subtract; dsimp only
  rcases c1 with rfl | ⟨rfl, h1⟩
  · exact X1 _ (br_t rfl (Y1 _ _ _ _ _ _ _ _ _ _ (br_t rfl ⟨rfl, J⟩)))
  · rcases c2 with rfl | ⟨rfl, h2⟩
    · exact X1 _ (br_f sl_10 (X2 _ (br_t rfl (Y1 _ _ _ _ _ _ _ _ _ _ (br_f sl_10 (Y2 _ _ _ _ _ _ _ _ _ _ (br_t rfl ⟨rfl, J⟩)))))))
    · rcases c3 with rfl | ⟨rfl, h3⟩
      · exact X1 _ (br_f sl_10 (X2 _ (br_f sl_10 (X3 _ (br_t rfl (Y1 _ _ _ _ _ _ _ _ _ _ (br_f sl_10 (Y2 _ _ _ _ _ _ _ _ _ _ (br_f sl_10 (Y3 _ _ _ _ _ _ _ _ _ _ (br_t rfl ⟨rfl, J⟩)))))))))))
      · obtain ⟨r, m', ki', f', s', t', hm', hp', XA, YA⟩ := sl_app l rg w b hm hp 2 v1 v2 v3 (Or.inr (Or.inr (Or.inl ⟨rfl, h1, h2, h3⟩)))
        exact X1 _ (br_f sl_10 (X2 _ (br_f sl_10 (X3 _ (br_f sl_10 (XA _ (Y1 _ _ _ _ _ _ _ _ _ _ (br_f sl_10 (Y2 _ _ _ _ _ _ _ _ _ _ (br_f sl_10 (Y3 _ _ _ _ _ _ _ _ _ _ (br_f sl_10 (YA _ ⟨rfl, m', l, rg, w, b, ki', f', s', t', rfl, rfl, hm', hp'⟩)))))))))))))
theorem i_vc_load {k : Nat} {u : SX} {v : SY} (I : i_Rel k u v) (hk : k + 4 ≤ 2048) (v1 : Int32) (v2 : Int32) (v3 : Int32) : wpX_load (fun r u' => wpY_load (fun r' v' => r' = r ∧ i_Rel (k + 4) u' v') v v1 v2 v3) u v1 v2 v3 := by
  obtain ⟨m, l, rg, w, b, ki, f, s, t, rfl, rfl, hm, hp⟩ := I
  have J : i_Rel (k + 4) (nI m, l, rg, w, b, ki, f, s, t) (nI m, l, ki, f, s, t, rg, w, b) := ⟨m, l, rg, w, b, ki, f, s, t, rfl, rfl, hm, hp⟩
  obtain ⟨r1, c1, X1, Y1⟩ := sl_reg v1
  obtain ⟨r2, c2, X2, Y2⟩ := sl_reg v2
  unfold wpX_load wpX_isOffset wpY_load; dsimp only
  rcases c1 with rfl | ⟨rfl, h1⟩
  · exact X1 _ (br_t rfl (Y1 _ _ _ _ _ _ _ _ _ _ (br_t rfl ⟨rfl, J⟩)))
  · rcases c2 with rfl | ⟨rfl, h2⟩
    · exact X1 _ (br_f sl_10 (X2 _ (br_t rfl (Y1 _ _ _ _ _ _ _ _ _ _ (br_f sl_10 (Y2 _ _ _ _ _ _ _ _ _ _ (br_t rfl ⟨rfl, J⟩)))))))
    · by_cases ha : v3 < (-8)
      · exact X1 _ (br_f sl_10 (X2 _ (br_f sl_10 (br_t ha (br_t rfl (Y1 _ _ _ _ _ _ _ _ _ _ (br_f sl_10 (Y2 _ _ _ _ _ _ _ _ _ _ (br_f sl_10 (br_t ha ⟨rfl, J⟩))))))))))
      · by_cases hb : v3 ≤ 15
        · have hc : ¬ 15 < v3 := Int32.not_lt.mpr hb
          obtain ⟨r, m', ki', f', s', t', hm', hp', XA, YA⟩ := sl_app l rg w b hm hp 3 v1 v2 v3 (Or.inr (Or.inr (Or.inr (Or.inl ⟨rfl, h1, h2⟩))))
          exact X1 _ (br_f sl_10 (X2 _ (br_f sl_10 (br_f ha (br_f hc (br_f sl_10 (XA _ (Y1 _ _ _ _ _ _ _ _ _ _ (br_f sl_10 (Y2 _ _ _ _ _ _ _ _ _ _ (br_f sl_10 (br_f ha (br_t hb (YA _ ⟨rfl, m', l, rg, w, b, ki', f', s', t', rfl, rfl, hm', hp'⟩))))))))))))))
        · have hc : 15 < v3 := Int32.not_le.mp hb
          exact X1 _ (br_f sl_10 (X2 _ (br_f sl_10 (br_f ha (br_t hc (br_t rfl (Y1 _ _ _ _ _ _ _ _ _ _ (br_f sl_10 (Y2 _ _ _ _ _ _ _ _ _ _ (br_f sl_10 (br_f ha (br_f hb ⟨rfl, J⟩))))))))))))
theorem i_vc_store {k : Nat} {u : SX} {v : SY} (I : i_Rel k u v) (hk : k + 4 ≤ 2048) (v1 : Int32) (v2 : Int32) (v3 : Int32) : wpX_store (fun r u' => wpY_store (fun r' v' => r' = r ∧ i_Rel (k + 4) u' v') v v1 v2 v3) u v1 v2 v3 := by
  obtain ⟨m, l, rg, w, b, ki, f, s, t, rfl, rfl, hm, hp⟩ := I
  have J : i_Rel (k + 4) (nI m, l, rg, w, b, ki, f, s, t) (nI m, l, ki, f, s, t, rg, w, b) := ⟨m, l, rg, w, b, ki, f, s, t, rfl, rfl, hm, hp⟩
  obtain ⟨r1, c1, X1, Y1⟩ := sl_reg v1
  obtain ⟨r3, c3, X3, Y3⟩ := sl_reg v3
  unfold wpX_store wpX_isOffset wpY_store; dsimp only
  rcases c1 with rfl | ⟨rfl, h1⟩
  · exact X1 _ (br_t rfl (Y1 _ _ _ _ _ _ _ _ _ _ (br_t rfl ⟨rfl, J⟩)))
  · by_cases ha : v2 < (-8)
    · rcases c3 with rfl | ⟨rfl, h3⟩
      · exact X1 _ (br_f sl_10 (br_t ha (br_t rfl (Y1 _ _ _ _ _ _ _ _ _ _ (br_f sl_10 (Y3 _ _ _ _ _ _ _ _ _ _ (br_t rfl ⟨rfl, J⟩)))))))
      · exact X1 _ (br_f sl_10 (br_t ha (br_t rfl (Y1 _ _ _ _ _ _ _ _ _ _ (br_f sl_10 (Y3 _ _ _ _ _ _ _ _ _ _ (br_f sl_10 (br_t ha ⟨rfl, J⟩))))))))
    · by_cases hb : v2 ≤ 15
      · have hc : ¬ 15 < v2 := Int32.not_lt.mpr hb
        rcases c3 with rfl | ⟨rfl, h3⟩
        · exact X1 _ (br_f sl_10 (br_f ha (br_f hc (br_f sl_10 (X3 _ (br_t rfl (Y1 _ _ _ _ _ _ _ _ _ _ (br_f sl_10 (Y3 _ _ _ _ _ _ _ _ _ _ (br_t rfl ⟨rfl, J⟩))))))))))
        · obtain ⟨r, m', ki', f', s', t', hm', hp', XA, YA⟩ := sl_app l rg w b hm hp 4 v1 v2 v3 (Or.inr (Or.inr (Or.inr (Or.inr (Or.inl ⟨rfl, h1, h3⟩)))))
          exact X1 _ (br_f sl_10 (br_f ha (br_f hc (br_f sl_10 (X3 _ (br_f sl_10 (XA _ (Y1 _ _ _ _ _ _ _ _ _ _ (br_f sl_10 (Y3 _ _ _ _ _ _ _ _ _ _ (br_f sl_10 (br_f ha (br_t hb (YA _ ⟨rfl, m', l, rg, w, b, ki', f', s', t', rfl, rfl, hm', hp'⟩))))))))))))))
      · have hc : 15 < v2 := Int32.not_le.mp hb
        rcases c3 with rfl | ⟨rfl, h3⟩
        · exact X1 _ (br_f sl_10 (br_f ha (br_t hc (br_t rfl (Y1 _ _ _ _ _ _ _ _ _ _ (br_f sl_10 (Y3 _ _ _ _ _ _ _ _ _ _ (br_t rfl ⟨rfl, J⟩))))))))
        · exact X1 _ (br_f sl_10 (br_f ha (br_t hc (br_t rfl (Y1 _ _ _ _ _ _ _ _ _ _ (br_f sl_10 (Y3 _ _ _ _ _ _ _ _ _ _ (br_f sl_10 (br_f ha (br_f hb ⟨rfl, J⟩))))))))))
theorem i_vc_leave {k : Nat} {u : SX} {v : SY} (I : i_Rel k u v) (hk : k + 4 ≤ 2048) (v1 : Int32) : wpX_leave (fun r u' => wpY_leave (fun r' v' => r' = r ∧ i_Rel (k + 4) u' v') v v1) u v1 := by
  obtain ⟨m, l, rg, w, b, ki, f, s, t, rfl, rfl, hm, hp⟩ := I
  have J : i_Rel (k + 4) (nI m, l, rg, w, b, ki, f, s, t) (nI m, l, ki, f, s, t, rg, w, b) := ⟨m, l, rg, w, b, ki, f, s, t, rfl, rfl, hm, hp⟩
  obtain ⟨r1, c1, X1, Y1⟩ := sl_reg v1
  unfold wpX_leave wpY_leave; dsimp only
  rcases c1 with rfl | ⟨rfl, h1⟩
  · exact X1 _ (br_t rfl (Y1 _ _ _ _ _ _ _ _ _ _ (br_t rfl ⟨rfl, J⟩)))
  · obtain ⟨r, m', ki', f', s', t', hm', hp', XA, YA⟩ := sl_app l rg w b hm hp 5 v1 0 0 (Or.inr (Or.inr (Or.inr (Or.inr (Or.inr ⟨rfl, h1⟩)))))
    exact X1 _ (br_f sl_10 (XA _ (Y1 _ _ _ _ _ _ _ _ _ _ (br_f sl_10 (YA _ ⟨rfl, m', l, rg, w, b, ki', f', s', t', rfl, rfl, hm', hp'⟩)))))
theorem i_vc_size {k : Nat} {u : SX} {v : SY} (I : i_Rel k u v) (hk : k + 4 ≤ 2048) : wpX_size (fun r => wpY_size (fun r' => r' = r ∧ i_Rel (k + 4) u v) v) u := by
  obtain ⟨m, l, rg, w, b, ki, f, s, t, rfl, rfl, hm, hp⟩ := I
  exact ⟨rfl, m, l, rg, w, b, ki, f, s, t, rfl, rfl, hm, hp⟩
theorem i_vc_clear {k : Nat} {u : SX} {v : SY} (I : i_Rel k u v) (hk : k + 4 ≤ 2048) : wpX_clear (fun u' => wpY_clear (fun v' => i_Rel (k + 4) u' v') v) u := by
  obtain ⟨m, l, rg, w, b, ki, f, s, t, rfl, rfl, hm, hp⟩ := I
  exact ⟨0, l, rg, w, b, ki, f, s, t, rfl, rfl, by decide, fun _ h => absurd h (Nat.not_lt_zero _)⟩
theorem i_vc_setRegister {k : Nat} {u : SX} {v : SY} (I : i_Rel k u v) (hk : k + 4 ≤ 2048) (v1 : Int32) (v2 : Int32) : wpX_setRegister (fun r u' => wpY_setRegister (fun r' v' => r' = r ∧ i_Rel (k + 4) u' v') v v1 v2) u v1 v2 := by
  obtain ⟨m, l, rg, w, b, ki, f, s, t, rfl, rfl, hm, hp⟩ := I
  obtain ⟨r1, c1, X1, Y1⟩ := sl_reg v1
  unfold wpX_setRegister wpY_setRegister; dsimp only
  rcases c1 with rfl | ⟨rfl, h1⟩
  · exact X1 _ (br_t rfl (Y1 _ _ _ _ _ _ _ _ _ _ (br_t rfl ⟨rfl, m, l, rg, w, b, ki, f, s, t, rfl, rfl, hm, hp⟩)))
  · exact X1 _ (br_f sl_10 ⟨h1, nm_e (Y1 _ _ _ _ _ _ _ _ _ _ (br_f sl_10 ⟨h1, nm_e ⟨rfl, m, l, _, w, b, ki, f, s, t, rfl, rfl, hm, hp⟩⟩))⟩)
theorem i_vc_register {k : Nat} {u : SX} {v : SY} (I : i_Rel k u v) (hk : k + 4 ≤ 2048) (v1 : Int32) : wpX_register (fun r => wpY_register (fun r' => r' = r ∧ i_Rel (k + 4) u v) v v1) u v1 := by
  obtain ⟨m, l, rg, w, b, ki, f, s, t, rfl, rfl, hm, hp⟩ := I
  have J : i_Rel (k + 4) (nI m, l, rg, w, b, ki, f, s, t) (nI m, l, ki, f, s, t, rg, w, b) := ⟨m, l, rg, w, b, ki, f, s, t, rfl, rfl, hm, hp⟩
  obtain ⟨r1, c1, X1, Y1⟩ := sl_reg v1
  unfold wpX_register wpY_register; dsimp only
  rcases c1 with rfl | ⟨rfl, h1⟩
  · exact X1 _ (br_t rfl (Y1 _ _ _ _ _ _ _ _ _ _ (br_t rfl ⟨rfl, J⟩)))
  · exact X1 _ (br_f sl_10 ⟨h1, Y1 _ _ _ _ _ _ _ _ _ _ (br_f sl_10 ⟨h1, rfl, J⟩)⟩)
theorem i_vc_setWord {k : Nat} {u : SX} {v : SY} (I : i_Rel k u v) (hk : k + 4 ≤ 2048) (v1 : Int32) (v2 : Int32) : wpX_setWord (fun r u' => wpY_setWord (fun r' v' => r' = r ∧ i_Rel (k + 4) u' v') v v1 v2) u v1 v2 := by
  obtain ⟨m, l, rg, w, b, ki, f, s, t, rfl, rfl, hm, hp⟩ := I
  obtain ⟨r1, c1, X1, Y1⟩ := sl_adr v1
  unfold wpX_setWord wpY_setWord; dsimp only
  rcases c1 with rfl | ⟨rfl, h1⟩
  · exact X1 _ (br_t rfl (Y1 _ _ _ _ _ _ _ _ _ _ (br_t rfl ⟨rfl, m, l, rg, w, b, ki, f, s, t, rfl, rfl, hm, hp⟩)))
  · exact X1 _ (br_f sl_10 ⟨h1, nm_e (Y1 _ _ _ _ _ _ _ _ _ _ (br_f sl_10 ⟨h1, nm_e ⟨rfl, m, l, rg, _, b, ki, f, s, t, rfl, rfl, hm, hp⟩⟩))⟩)
theorem i_vc_word {k : Nat} {u : SX} {v : SY} (I : i_Rel k u v) (hk : k + 4 ≤ 2048) (v1 : Int32) : wpX_word (fun r => wpY_word (fun r' => r' = r ∧ i_Rel (k + 4) u v) v v1) u v1 := by
  obtain ⟨m, l, rg, w, b, ki, f, s, t, rfl, rfl, hm, hp⟩ := I
  have J : i_Rel (k + 4) (nI m, l, rg, w, b, ki, f, s, t) (nI m, l, ki, f, s, t, rg, w, b) := ⟨m, l, rg, w, b, ki, f, s, t, rfl, rfl, hm, hp⟩
  obtain ⟨r1, c1, X1, Y1⟩ := sl_adr v1
  unfold wpX_word wpY_word; dsimp only
  rcases c1 with rfl | ⟨rfl, h1⟩
  · exact X1 _ (br_t rfl (Y1 _ _ _ _ _ _ _ _ _ _ (br_t rfl ⟨rfl, J⟩)))
  · exact X1 _ (br_f sl_10 ⟨h1, Y1 _ _ _ _ _ _ _ _ _ _ (br_f sl_10 ⟨h1, rfl, J⟩)⟩)
theorem i_vc_bar {k : Nat} {u : SX} {v : SY} (I : i_Rel k u v) (hk : k + 4 ≤ 2048) (v1 : Int32) (v2 : Int32) : wpX_bar (fun r u' => wpY_bar (fun r' v' => r' = r ∧ i_Rel (k + 4) u' v') v v1 v2) u v1 v2 := by
  obtain ⟨m, l, rg, w, b, ki, f, s, t, rfl, rfl, hm, hp⟩ := I
  obtain ⟨r1, c1, X1, Y1⟩ := sl_adr v1
  unfold wpX_bar wpY_bar wX_bar_23 wY_bar_24; dsimp only
  rcases c1 with rfl | ⟨rfl, h1⟩
  · exact X1 _ (br_t rfl (Y1 _ _ _ _ _ _ _ _ _ _ (br_t rfl ⟨rfl, m, l, rg, w, b, ki, f, s, t, rfl, rfl, hm, hp⟩)))
  · by_cases z : b v1.toNatClampNeg = 0
    · by_cases z2 : v2 = 0
      · exact X1 _ (br_f sl_10 ⟨h1, br_t z (br_t z2 ⟨h1, nm_e (Y1 _ _ _ _ _ _ _ _ _ _ (br_f sl_10 ⟨h1, br_t z (br_t z2 ⟨h1, nm_e ⟨rfl, m, l, rg, w, _, ki, f, s, t, rfl, rfl, hm, hp⟩⟩)⟩))⟩)⟩)
      · exact X1 _ (br_f sl_10 ⟨h1, br_t z (br_f z2 ⟨h1, nm_e (Y1 _ _ _ _ _ _ _ _ _ _ (br_f sl_10 ⟨h1, br_t z (br_f z2 ⟨h1, nm_e ⟨rfl, m, l, rg, w, _, ki, f, s, t, rfl, rfl, hm, hp⟩⟩)⟩))⟩)⟩)
    · by_cases z2 : v2 = 0
      · exact X1 _ (br_f sl_10 ⟨h1, br_f z (br_t z2 ⟨h1, nm_e (Y1 _ _ _ _ _ _ _ _ _ _ (br_f sl_10 ⟨h1, br_f z (br_t z2 ⟨h1, nm_e ⟨rfl, m, l, rg, w, _, ki, f, s, t, rfl, rfl, hm, hp⟩⟩)⟩))⟩)⟩)
      · exact X1 _ (br_f sl_10 ⟨h1, br_f z (br_f z2 ⟨h1, nm_e (Y1 _ _ _ _ _ _ _ _ _ _ (br_f sl_10 ⟨h1, br_f z (br_f z2 ⟨h1, nm_e ⟨rfl, m, l, rg, w, _, ki, f, s, t, rfl, rfl, hm, hp⟩⟩)⟩))⟩)⟩)
theorem i_vc_run {k : Nat} {u : SX} {v : SY} (I : i_Rel k u v) (hk : k + 4 ≤ 2048) : wpX_run (fun r u' => wpY_run (fun r' v' => r' = r ∧ i_Rel (k + 4) u' v') v) u := by
  obtain ⟨m, l, rg, w, b, ki, f, s, t, rfl, rfl, hm, hp⟩ := I
  obtain ⟨r, rg', w', hX, hY⟩ := sl_run b l l rg w hm hp
  exact hX _ (hY _ ⟨rfl, m, r, rg', w', b, ki, f, s, t, rfl, rfl, hm, hp⟩)
theorem i_vc_last {k : Nat} {u : SX} {v : SY} (I : i_Rel k u v) (hk : k + 4 ≤ 2048) : wpX_last (fun r => wpY_last (fun r' => r' = r ∧ i_Rel (k + 4) u v) v) u := by
  obtain ⟨m, l, rg, w, b, ki, f, s, t, rfl, rfl, hm, hp⟩ := I
  exact ⟨rfl, m, l, rg, w, b, ki, f, s, t, rfl, rfl, hm, hp⟩
theorem i_vc_repeat {k : Nat} {u : SX} {v : SY} (I : i_Rel k u v) (hk : k + 4 ≤ 2048) (v1 : Int32) : wpX_repeat (fun r u' => wpY_repeat (fun r' v' => r' = r ∧ i_Rel (k + 4) u' v') v v1) u v1 := by
  obtain ⟨m, l, rg, w, b, ki, f, s, t, rfl, rfl, hm, hp⟩ := I
  unfold wpX_repeat wpY_repeat; dsimp only
  have i10 : (1 : Int32) = 0 ↔ ¬ (0 : Int32) = 0 := ⟨fun y => absurd y sl_10, fun y => absurd rfl y⟩
  by_cases h0 : 0 ≤ v1
  · by_cases h8 : v1 ≤ 8
    · obtain ⟨q, hq, rfl⟩ := nI_of2 (M := 8) (n := 8) (by decide) (Int32.not_lt.mpr h0) h8
      obtain ⟨r, l', rg', w', hX, hY⟩ := sl_rep b q hq hm hp q 0 1 0 l rg w (by omega) i10
      rw [nI_0] at hX hY
      exact br_t h8 ⟨q + 1, hX _ (br_t h0 (br_t h8 ⟨q + 1, hY _ ⟨rfl, m, l', rg', w', b, ki, f, s, t, rfl, rfl, hm, hp⟩⟩))⟩
    · obtain ⟨r, l', rg', w', hX, hY⟩ := sl_rep b 8 (by omega) hm hp 8 0 1 0 l rg w (by omega) i10
      rw [nI_0] at hX hY
      exact br_f h8 ⟨8 + 1, hX _ (br_t h0 (br_f h8 ⟨8 + 1, hY _ ⟨rfl, m, l', rg', w', b, ki, f, s, t, rfl, rfl, hm, hp⟩⟩))⟩
  · have hn : v1 ≤ 0 := Int32.le_of_lt (Int32.not_le.mp h0)
    have h8 : v1 ≤ 8 := Int32.le_trans hn (by decide)
    refine br_t h8 ⟨1, ?_⟩
    rw [wX_repeat_18]
    refine br_f sl_10 (br_t hn (br_f h0 ⟨1, ?_⟩))
    rw [wY_repeat_26]
    exact br_t (by decide) ⟨rfl, m, l, rg, w, b, ki, f, s, t, rfl, rfl, hm, hp⟩
end
