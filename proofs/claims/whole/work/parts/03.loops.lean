section
variable {m : Nat} {ki f s t : Nat → Int32} (b : Nat → Int32)
/-- the two loops of a run, step by step: the component's local answer is the reference's field -/
theorem sl_loop (l : Int32) (hm : m ≤ 14) (hp : sl_p m ki f s t) : ∀ (d j : Nat) (x : Int32) (rg w : Nat → Int32), j + d = m →
    ∃ (r : Int32) (rg' w' : Nat → Int32),
      (∀ (post : Int32 → SX → Prop), post r (nI m, r, rg', w', b, ki, f, s, t) → wX_run_4 post (d + 1) x (nI j) (nI m) l rg w b ki f s t) ∧
      (∀ (post : Int32 → SY → Prop), post r (nI m, r, ki, f, s, t, rg', w', b) → wY_run_7 post (d + 1) (nI j) (nI m) x ki f s t rg w b) := by
  intro d
  induction d with
  | zero =>
    intro j x rg w hj
    have h : nI m ≤ nI j := nI_le (by omega) (by omega)
    exact ⟨x, rg, w, fun _ hq => br_t h hq, fun _ hq => br_t h hq⟩
  | succ d ih =>
    intro j x rg w hj
    have h : ¬ nI m ≤ nI j := nI_ge (by omega) (by omega)
    by_cases z : x = 0
    · obtain ⟨e, rg1, w1, hX, hY⟩ := sl_exec (nI m) l x rg w b hm hp (j := j) (by omega)
      by_cases ze : e = 0
      · obtain ⟨r, rg2, w2, hX2, hY2⟩ := ih (j + 1) x rg1 w1 (by omega)
        refine ⟨r, rg2, w2, fun post hq => ?_, fun post hq => ?_⟩
        · rw [wX_run_4]
          exact br_f h (br_t z (hX _ (br_t ze (nm_r (nI_1 j) (hX2 post hq)))))
        · rw [wY_run_7]
          exact br_f h (br_t z (hY _ (br_t ze (nm_r (nI_1 j) (hY2 post hq)))))
      · obtain ⟨r, rg2, w2, hX2, hY2⟩ := ih (j + 1) (e + 4 * nI j) rg1 w1 (by omega)
        refine ⟨r, rg2, w2, fun post hq => ?_, fun post hq => ?_⟩
        · rw [wX_run_4]
          exact br_f h (br_t z (hX _ (br_f ze (nm_e (nm_r (nI_1 j) (hX2 post hq))))))
        · rw [wY_run_7]
          exact br_f h (br_t z (hY _ (br_f ze (nm_e (nm_r (nI_1 j) (hY2 post hq))))))
    · exact ⟨x, rg, w, fun _ hq => br_f h (br_f z hq), fun _ hq => br_f h (br_f z hq)⟩
/-- one run on both sides -/
theorem sl_run (l l' : Int32) (rg w : Nat → Int32) (hm : m ≤ 14) (hp : sl_p m ki f s t) :
    ∃ (r : Int32) (rg' w' : Nat → Int32),
      (∀ (post : Int32 → SX → Prop), post r (nI m, r, rg', w', b, ki, f, s, t) → wpX_run post (nI m, l, rg, w, b, ki, f, s, t)) ∧
      (∀ (post : Int32 → SY → Prop), post r (nI m, r, ki, f, s, t, rg', w', b) → wpY_run post (nI m, l', ki, f, s, t, rg, w, b)) := by
  obtain ⟨r, rg', w', hX, hY⟩ := sl_loop b l hm hp m 0 0 rg w (by omega)
  rw [nI_0] at hX hY
  exact ⟨r, rg', w', fun post hq => ⟨m + 1, hX post hq⟩, fun post hq => ⟨m + 1, hY post hq⟩⟩
/-- the two loops of a repeat: the component's flag falls when the reference's ending isn't 0 -/
theorem sl_rep (q : Nat) (hq8 : q ≤ 8) (hm : m ≤ 14) (hp : sl_p m ki f s t) : ∀ (d j : Nat) (g e l : Int32) (rg w : Nat → Int32), j + d = q → (g = 0 ↔ ¬ e = 0) →
    ∃ (r l' : Int32) (rg' w' : Nat → Int32),
      (∀ (post : Int32 → SX → Prop), post r (nI m, l', rg', w', b, ki, f, s, t) → wX_repeat_18 post (nI q) (d + 1) (nI j) g (nI m) l rg w b ki f s t) ∧
      (∀ (post : Int32 → SY → Prop), post r (nI m, l', ki, f, s, t, rg', w', b) → wY_repeat_26 post (nI q) (d + 1) (nI j) e (nI m) l ki f s t rg w b) := by
  intro d
  induction d with
  | zero =>
    intro j g e l rg w hj hg
    have h : nI q ≤ nI j := nI_le (by omega) (by omega)
    refine ⟨nI j, l, rg, w, fun _ hq => ?_, fun _ hq => br_t h hq⟩
    rw [wX_repeat_18]
    exact br_c (fun _ => hq) (fun _ => br_t h hq)
  | succ d ih =>
    intro j g e l rg w hj hg
    have h : ¬ nI q ≤ nI j := nI_ge (by omega) (by omega)
    by_cases z : e = 0
    · have zg : ¬ g = 0 := fun y => hg.mp y z
      obtain ⟨x, rg1, w1, hX, hY⟩ := sl_run b l l rg w hm hp
      by_cases zx : x = 0
      · obtain ⟨r, l2, rg2, w2, hX2, hY2⟩ := ih (j + 1) 1 x x rg1 w1 (by omega) ⟨fun y => absurd y sl_10, fun y => absurd zx y⟩
        refine ⟨r, l2, rg2, w2, fun post hq => ?_, fun post hq => ?_⟩
        · rw [wX_repeat_18]
          exact br_f zg (br_f h (hX _ (br_t zx (nm_r (nI_1 j) (hX2 post hq)))))
        · rw [wY_repeat_26]
          exact br_f h (br_t z (hY _ (nm_r (nI_1 j) (hY2 post hq))))
      · obtain ⟨r, l2, rg2, w2, hX2, hY2⟩ := ih (j + 1) 0 x x rg1 w1 (by omega) ⟨fun _ => zx, fun _ => rfl⟩
        refine ⟨r, l2, rg2, w2, fun post hq => ?_, fun post hq => ?_⟩
        · rw [wX_repeat_18]
          exact br_f zg (br_f h (hX _ (br_f zx (nm_r (nI_1 j) (hX2 post hq)))))
        · rw [wY_repeat_26]
          exact br_f h (br_t z (hY _ (nm_r (nI_1 j) (hY2 post hq))))
    · have zg : g = 0 := hg.mpr z
      exact ⟨nI j, l, rg, w, fun _ hq => br_t zg hq, fun _ hq => br_f h (br_f z hq)⟩
end
