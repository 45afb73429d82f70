/-- an address is open on both sides, or a fault on both -/
theorem sl_open (b : Nat → Int32) (x : Int32) :
    (vp_in x 16 ∧ b x.toNatClampNeg = 0 ∧
      (∀ (post : Int32 → Prop) (c l : Int32) (rg w ki f s t : Nat → Int32), post 1 → wpX_isOpen post (c, l, rg, w, b, ki, f, s, t) x) ∧
      (∀ (post : Int32 → Prop) (c l : Int32) (ki f s t rg w b : Nat → Int32), post 1 → wpY_isAddress post (c, l, ki, f, s, t, rg, w, b) x)) ∨
    ((∀ (post : Int32 → Prop) (c l : Int32) (rg w ki f s t : Nat → Int32), post 0 → wpX_isOpen post (c, l, rg, w, b, ki, f, s, t) x) ∧
      (∀ (post : Int32 → SY → Prop) (x1 x2 x4 c l : Int32) (ki f s t rg w : Nat → Int32), post 2 (c, l, ki, f, s, t, rg, w, b) → wY_execute_159 post x1 x2 x4 x c l ki f s t rg w b)) := by
  obtain ⟨r, hr, hX, hY⟩ := sl_adr x
  rcases hr with rfl | ⟨rfl, hv⟩
  · refine Or.inr ⟨?_, ?_⟩
    · intro post c l rg w ki f s t hq
      unfold wpX_isOpen; dsimp only
      exact hX _ (br_t rfl hq)
    · intro post x1 x2 x4 c l ki f s t rg w hq
      unfold wY_execute_159
      exact hY _ _ _ _ _ _ _ _ _ _ (br_t rfl hq)
  · by_cases z : b x.toNatClampNeg = 0
    · refine Or.inl ⟨hv, z, ?_, hY⟩
      intro post c l rg w ki f s t hq
      unfold wpX_isOpen; dsimp only
      exact hX _ (br_f sl_10 ⟨hv, br_t z hq⟩)
    · refine Or.inr ⟨?_, ?_⟩
      · intro post c l rg w ki f s t hq
        unfold wpX_isOpen; dsimp only
        exact hX _ (br_f sl_10 ⟨hv, br_f z hq⟩)
      · intro post x1 x2 x4 c l ki f s t rg w hq
        unfold wY_execute_159
        exact hY _ _ _ _ _ _ _ _ _ _ (br_f sl_10 ⟨hv, br_f z hq⟩)
/-- what one instruction does, on both sides -/
def sl_E (c : Int32) (b ki f s t : Nat → Int32) (l l' : Int32) (j : Int32) (rg w : Nat → Int32) (r : Int32) (rg' w' : Nat → Int32) : Prop :=
  (∀ post : Int32 → SX → Prop, post r (c, l, rg', w', b, ki, f, s, t) → wpX_execute post (c, l, rg, w, b, ki, f, s, t) j) ∧
  (∀ post : Int32 → SY → Prop, post r (c, l', ki, f, s, t, rg', w', b) → wpY_execute post (c, l', ki, f, s, t, rg, w, b) j)
section
variable {j : Nat} {ki f s t : Nat → Int32} (c l l' : Int32) (rg w b : Nat → Int32)
theorem sl_e0 (hj : j < 14) (hk : ki j = 0) (h1 : vp_in (f j) 8) : sl_E c b ki f s t l l' (nI j) rg w 0 (upd rg (f j).toNatClampNeg (s j)) w := by
  have hv : vp_in (nI j) 14 := vp_in_nI hj (by decide)
  have hc : (nI j).toNatClampNeg = j := nI_clamp (by omega)
  refine ⟨fun post hq => ?_, fun post hq => ?_⟩
  · unfold wpX_execute; dsimp only; rw [hc]
    exact ⟨hv, nm_e ⟨hv, nm_e ⟨hv, nm_e ⟨hv, nm_r hk (br_f (by decide) (br_f (by decide) (br_t rfl ⟨h1, nm_e hq⟩)))⟩⟩⟩⟩
  · unfold wpY_execute; dsimp only; rw [hc]
    exact ⟨hv, nm_e ⟨hv, nm_e ⟨hv, nm_e ⟨hv, br_t hk ⟨h1, nm_e hq⟩⟩⟩⟩⟩
theorem sl_e1 (hj : j < 14) (hk : ki j = 1) (h1 : vp_in (f j) 8) (h2 : vp_in (s j) 8) (h3 : vp_in (t j) 8) : sl_E c b ki f s t l l' (nI j) rg w 0 (upd rg (f j).toNatClampNeg (rg (s j).toNatClampNeg + rg (t j).toNatClampNeg)) w := by
  have hv : vp_in (nI j) 14 := vp_in_nI hj (by decide)
  have hc : (nI j).toNatClampNeg = j := nI_clamp (by omega)
  have n0 : ¬ ki j = 0 := by rw [hk]; decide
  refine ⟨fun post hq => ?_, fun post hq => ?_⟩
  · unfold wpX_execute; dsimp only; rw [hc]
    exact ⟨hv, nm_e ⟨hv, nm_e ⟨hv, nm_e ⟨hv, nm_r hk (br_f (by decide) (br_f (by decide) (br_f (by decide) (br_t rfl ⟨h2, h3, h1, nm_e hq⟩))))⟩⟩⟩⟩
  · unfold wpY_execute; dsimp only; rw [hc]
    exact ⟨hv, nm_e ⟨hv, nm_e ⟨hv, nm_e ⟨hv, br_f n0 ⟨hv, br_t hk ⟨h2, h3, h1, nm_e hq⟩⟩⟩⟩⟩⟩
theorem sl_e2 (hj : j < 14) (hk : ki j = 2) (h1 : vp_in (f j) 8) (h2 : vp_in (s j) 8) (h3 : vp_in (t j) 8) : sl_E c b ki f s t l l' (nI j) rg w 0 (upd rg (f j).toNatClampNeg (rg (s j).toNatClampNeg - rg (t j).toNatClampNeg)) w := by
  have hv : vp_in (nI j) 14 := vp_in_nI hj (by decide)
  have hc : (nI j).toNatClampNeg = j := nI_clamp (by omega)
  have n0 : ¬ ki j = 0 := by rw [hk]; decide
  have n1 : ¬ ki j = 1 := by rw [hk]; decide
  refine ⟨fun post hq => ?_, fun post hq => ?_⟩
  · unfold wpX_execute; dsimp only; rw [hc]
    exact ⟨hv, nm_e ⟨hv, nm_e ⟨hv, nm_e ⟨hv, nm_r hk (br_f (by decide) (br_f (by decide) (br_f (by decide) (br_f (by decide) (br_t rfl ⟨h2, h3, h1, nm_e hq⟩)))))⟩⟩⟩⟩
  · unfold wpY_execute; dsimp only; rw [hc]
    exact ⟨hv, nm_e ⟨hv, nm_e ⟨hv, nm_e ⟨hv, br_f n0 ⟨hv, br_f n1 ⟨hv, br_t hk ⟨h2, h3, h1, nm_e hq⟩⟩⟩⟩⟩⟩⟩
theorem sl_e5 (hj : j < 14) (hk : ki j = 5) (h1 : vp_in (f j) 8) : ∃ r : Int32, sl_E c b ki f s t l l' (nI j) rg w r rg w := by
  have hv : vp_in (nI j) 14 := vp_in_nI hj (by decide)
  have hc : (nI j).toNatClampNeg = j := nI_clamp (by omega)
  have n0 : ¬ ki j = 0 := by rw [hk]; decide
  have n1 : ¬ ki j = 1 := by rw [hk]; decide
  have n2 : ¬ ki j = 2 := by rw [hk]; decide
  by_cases z : rg (f j).toNatClampNeg = 0
  · refine ⟨0, fun post hq => ?_, fun post hq => ?_⟩
    · unfold wpX_execute; dsimp only; rw [hc]
      exact ⟨hv, nm_e ⟨hv, nm_e ⟨hv, nm_e ⟨hv, nm_r hk (br_f (by decide) (br_t (by decide) ⟨h1, br_t z hq⟩))⟩⟩⟩⟩
    · unfold wpY_execute; dsimp only; rw [hc]
      exact ⟨hv, nm_e ⟨hv, nm_e ⟨hv, nm_e ⟨hv, br_f n0 ⟨hv, br_f n1 ⟨hv, br_f n2 ⟨hv, br_t hk ⟨h1, br_t z hq⟩⟩⟩⟩⟩⟩⟩⟩
  · refine ⟨1, fun post hq => ?_, fun post hq => ?_⟩
    · unfold wpX_execute; dsimp only; rw [hc]
      exact ⟨hv, nm_e ⟨hv, nm_e ⟨hv, nm_e ⟨hv, nm_r hk (br_f (by decide) (br_t (by decide) ⟨h1, br_f z hq⟩))⟩⟩⟩⟩
    · unfold wpY_execute; dsimp only; rw [hc]
      exact ⟨hv, nm_e ⟨hv, nm_e ⟨hv, nm_e ⟨hv, br_f n0 ⟨hv, br_f n1 ⟨hv, br_f n2 ⟨hv, br_t hk ⟨h1, br_f z hq⟩⟩⟩⟩⟩⟩⟩⟩
theorem sl_e3 (hj : j < 14) (hk : ki j = 3) (h1 : vp_in (f j) 8) (h2 : vp_in (s j) 8) : ∃ (r : Int32) (rg' : Nat → Int32), sl_E c b ki f s t l l' (nI j) rg w r rg' w := by
  have hv : vp_in (nI j) 14 := vp_in_nI hj (by decide)
  have hc : (nI j).toNatClampNeg = j := nI_clamp (by omega)
  have n0 : ¬ ki j = 0 := by rw [hk]; decide
  have n1 : ¬ ki j = 1 := by rw [hk]; decide
  have n2 : ¬ ki j = 2 := by rw [hk]; decide
  have n5 : ¬ ki j = 5 := by rw [hk]; decide
  rcases sl_open b (rg (s j).toNatClampNeg + t j) with ⟨ho, hz, hX, hY⟩ | ⟨hX, hY⟩
  · refine ⟨0, upd rg (f j).toNatClampNeg (w (rg (s j).toNatClampNeg + t j).toNatClampNeg), fun post hq => ?_, fun post hq => ?_⟩
    · unfold wpX_execute; dsimp only; rw [hc]
      refine ⟨hv, nm_e ⟨hv, nm_e ⟨hv, nm_e ⟨hv, nm_r hk (br_f (by decide) (br_f (by decide) (br_f (by decide) (br_f (by decide) (br_f (by decide) (br_t rfl ?_))))))⟩⟩⟩⟩
      unfold wpX_executeLoad; dsimp only
      exact ⟨h2, nm_e (hX _ _ _ _ _ _ _ _ _ (br_f sl_10 ⟨ho, h1, nm_e hq⟩))⟩
    · unfold wpY_execute; dsimp only; rw [hc]
      refine ⟨hv, nm_e ⟨hv, nm_e ⟨hv, nm_e ⟨hv, br_f n0 ⟨hv, br_f n1 ⟨hv, br_f n2 ⟨hv, br_f n5 ⟨hv, br_t hk ⟨h2, ?_⟩⟩⟩⟩⟩⟩⟩⟩⟩
      unfold wY_execute_159; rw [hc]
      exact hY _ _ _ _ _ _ _ _ _ _ (br_f sl_10 ⟨ho, br_t hz ⟨hv, br_t hk ⟨ho, h1, nm_e hq⟩⟩⟩)
  · refine ⟨2, rg, fun post hq => ?_, fun post hq => ?_⟩
    · unfold wpX_execute; dsimp only; rw [hc]
      refine ⟨hv, nm_e ⟨hv, nm_e ⟨hv, nm_e ⟨hv, nm_r hk (br_f (by decide) (br_f (by decide) (br_f (by decide) (br_f (by decide) (br_f (by decide) (br_t rfl ?_))))))⟩⟩⟩⟩
      unfold wpX_executeLoad; dsimp only
      exact ⟨h2, nm_e (hX _ _ _ _ _ _ _ _ _ (br_t rfl hq))⟩
    · unfold wpY_execute; dsimp only; rw [hc]
      exact ⟨hv, nm_e ⟨hv, nm_e ⟨hv, nm_e ⟨hv, br_f n0 ⟨hv, br_f n1 ⟨hv, br_f n2 ⟨hv, br_f n5 ⟨hv, br_t hk ⟨h2, hY _ _ _ _ _ _ _ _ _ _ _ _ hq⟩⟩⟩⟩⟩⟩⟩⟩⟩
theorem sl_e4 (hj : j < 14) (hk : ki j = 4) (h1 : vp_in (f j) 8) (h3 : vp_in (t j) 8) : ∃ (r : Int32) (w' : Nat → Int32), sl_E c b ki f s t l l' (nI j) rg w r rg w' := by
  have hv : vp_in (nI j) 14 := vp_in_nI hj (by decide)
  have hc : (nI j).toNatClampNeg = j := nI_clamp (by omega)
  have n0 : ¬ ki j = 0 := by rw [hk]; decide
  have n1 : ¬ ki j = 1 := by rw [hk]; decide
  have n2 : ¬ ki j = 2 := by rw [hk]; decide
  have n5 : ¬ ki j = 5 := by rw [hk]; decide
  have n3 : ¬ ki j = 3 := by rw [hk]; decide
  rcases sl_open b (rg (f j).toNatClampNeg + s j) with ⟨ho, hz, hX, hY⟩ | ⟨hX, hY⟩
  · refine ⟨0, upd w (rg (f j).toNatClampNeg + s j).toNatClampNeg (rg (t j).toNatClampNeg), fun post hq => ?_, fun post hq => ?_⟩
    · unfold wpX_execute; dsimp only; rw [hc]
      refine ⟨hv, nm_e ⟨hv, nm_e ⟨hv, nm_e ⟨hv, nm_r hk (br_f (by decide) (br_f (by decide) (br_f (by decide) (br_f (by decide) (br_f (by decide) (br_f (by decide) (br_t rfl ?_)))))))⟩⟩⟩⟩
      unfold wpX_executeStore; dsimp only
      exact ⟨h1, nm_e (hX _ _ _ _ _ _ _ _ _ (br_f sl_10 ⟨h3, ho, nm_e hq⟩))⟩
    · unfold wpY_execute; dsimp only; rw [hc]
      refine ⟨hv, nm_e ⟨hv, nm_e ⟨hv, nm_e ⟨hv, br_f n0 ⟨hv, br_f n1 ⟨hv, br_f n2 ⟨hv, br_f n5 ⟨hv, br_f n3 ⟨h1, ?_⟩⟩⟩⟩⟩⟩⟩⟩⟩
      unfold wY_execute_159; rw [hc]
      exact hY _ _ _ _ _ _ _ _ _ _ (br_f sl_10 ⟨ho, br_t hz ⟨hv, br_f n3 ⟨h3, ho, nm_e hq⟩⟩⟩)
  · refine ⟨2, w, fun post hq => ?_, fun post hq => ?_⟩
    · unfold wpX_execute; dsimp only; rw [hc]
      refine ⟨hv, nm_e ⟨hv, nm_e ⟨hv, nm_e ⟨hv, nm_r hk (br_f (by decide) (br_f (by decide) (br_f (by decide) (br_f (by decide) (br_f (by decide) (br_f (by decide) (br_t rfl ?_)))))))⟩⟩⟩⟩
      unfold wpX_executeStore; dsimp only
      exact ⟨h1, nm_e (hX _ _ _ _ _ _ _ _ _ (br_t rfl hq))⟩
    · unfold wpY_execute; dsimp only; rw [hc]
      exact ⟨hv, nm_e ⟨hv, nm_e ⟨hv, nm_e ⟨hv, br_f n0 ⟨hv, br_f n1 ⟨hv, br_f n2 ⟨hv, br_f n5 ⟨hv, br_f n3 ⟨h1, hY _ _ _ _ _ _ _ _ _ _ _ _ hq⟩⟩⟩⟩⟩⟩⟩⟩⟩
end
/-- one instruction on both sides: one ending, the same registers and words -/
theorem sl_exec {m j : Nat} {ki f s t : Nat → Int32} (c l l' : Int32) (rg w b : Nat → Int32) (hm : m ≤ 14) (hp : sl_p m ki f s t) (hj : j < m) :
    ∃ (r : Int32) (rg' w' : Nat → Int32), sl_E c b ki f s t l l' (nI j) rg w r rg' w' := by
  have h14 : j < 14 := by omega
  rcases hp j hj with ⟨hk, h1⟩ | ⟨hk, h1, h2, h3⟩ | ⟨hk, h1, h2, h3⟩ | ⟨hk, h1, h2⟩ | ⟨hk, h1, h3⟩ | ⟨hk, h1⟩
  · exact ⟨_, _, _, sl_e0 c l l' rg w b h14 hk h1⟩
  · exact ⟨_, _, _, sl_e1 c l l' rg w b h14 hk h1 h2 h3⟩
  · exact ⟨_, _, _, sl_e2 c l l' rg w b h14 hk h1 h2 h3⟩
  · obtain ⟨r, rg', h⟩ := sl_e3 c l l' rg w b h14 hk h1 h2
    exact ⟨r, rg', w, h⟩
  · obtain ⟨r, w', h⟩ := sl_e4 c l l' rg w b h14 hk h1 h3
    exact ⟨r, rg, w', h⟩
  · obtain ⟨r, h⟩ := sl_e5 c l l' rg w b h14 hk h1
    exact ⟨r, rg, w, h⟩
