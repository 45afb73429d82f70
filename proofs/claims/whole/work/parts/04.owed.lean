/-- the same registers, words, bars, last answer and program on both sides; the program's operands are in range -/
def i_Rel (_k : Nat) (u : SX) (v : SY) : Prop :=
  ∃ (m : Nat) (l : Int32) (rg w b ki f s t : Nat → Int32), u = (nI m, l, rg, w, b, ki, f, s, t) ∧ v = (nI m, l, ki, f, s, t, rg, w, b) ∧ m ≤ 14 ∧ sl_p m ki f s t
theorem i_up {k : Nat} {u : SX} {v : SY} (h : i_Rel k u v) : i_Rel (k + 4) u v := h
theorem i_vc0 : wpX_init (fun u => wpY_init (fun v => i_Rel 0 u v)) :=
  ⟨0, -1, fun _ => 0, fun _ => 0, fun _ => 0, fun _ => 0, fun _ => 0, fun _ => 0, fun _ => 0, rfl, rfl, by decide, fun _ h => absurd h (Nat.not_lt_zero _)⟩
theorem i_vc_constant {k : Nat} {u : SX} {v : SY} (I : i_Rel k u v) (hk : k + 4 ≤ 2048) (v1 : Int32) (v2 : Int32) : wpX_constant (fun r u' => wpY_constant (fun r' v' => r' = r ∧ i_Rel (k + 4) u' v') v v1 v2) u v1 v2 := by
  obtain ⟨m, l, rg, w, b, ki, f, s, t, rfl, rfl, hm, hp⟩ := I
  have J : i_Rel (k + 4) (nI m, l, rg, w, b, ki, f, s, t) (nI m, l, ki, f, s, t, rg, w, b) := ⟨m, l, rg, w, b, ki, f, s, t, rfl, rfl, hm, hp⟩
  obtain ⟨r1, c1, X1, Y1⟩ := sl_reg v1
  unfold wpX_constant wpY_constant; dsimp only
  rcases c1 with rfl | ⟨rfl, h1⟩
  · exact X1 _ (br_t rfl (Y1 _ _ _ _ _ _ _ _ _ _ (br_t rfl ⟨rfl, J⟩)))
  · obtain ⟨r, m', ki', f', s', t', hm', hp', XA, YA⟩ := sl_app l rg w b hm hp 0 v1 v2 0 (Or.inl ⟨rfl, h1⟩)
    exact X1 _ (br_f sl_10 (XA _ (Y1 _ _ _ _ _ _ _ _ _ _ (br_f sl_10 (YA _ ⟨rfl, m', l, rg, w, b, ki', f', s', t', rfl, rfl, hm', hp'⟩)))))
theorem i_vc_add {k : Nat} {u : SX} {v : SY} (I : i_Rel k u v) (hk : k + 4 ≤ 2048) (v1 : Int32) (v2 : Int32) (v3 : Int32) : wpX_add (fun r u' => wpY_add (fun r' v' => r' = r ∧ i_Rel (k + 4) u' v') v v1 v2 v3) u v1 v2 v3 := by
  obtain ⟨m, l, rg, w, b, ki, f, s, t, rfl, rfl, hm, hp⟩ := I
  have J : i_Rel (k + 4) (nI m, l, rg, w, b, ki, f, s, t) (nI m, l, ki, f, s, t, rg, w, b) := ⟨m, l, rg, w, b, ki, f, s, t, rfl, rfl, hm, hp⟩
  obtain ⟨r1, c1, X1, Y1⟩ := sl_reg v1
  obtain ⟨r2, c2, X2, Y2⟩ := sl_reg v2
  obtain ⟨r3, c3, X3, Y3⟩ := sl_reg v3
  unfold wpX_add wpX_appendArithmetic wpY_add; dsimp only
  rcases c1 with rfl | ⟨rfl, h1⟩
  · exact X1 _ (br_t rfl (Y1 _ _ _ _ _ _ _ _ _ _ (br_t rfl ⟨rfl, J⟩)))
  · rcases c2 with rfl | ⟨rfl, h2⟩
    · exact X1 _ (br_f sl_10 (X2 _ (br_t rfl (Y1 _ _ _ _ _ _ _ _ _ _ (br_f sl_10 (Y2 _ _ _ _ _ _ _ _ _ _ (br_t rfl ⟨rfl, J⟩)))))))
    · rcases c3 with rfl | ⟨rfl, h3⟩
      · exact X1 _ (br_f sl_10 (X2 _ (br_f sl_10 (X3 _ (br_t rfl (Y1 _ _ _ _ _ _ _ _ _ _ (br_f sl_10 (Y2 _ _ _ _ _ _ _ _ _ _ (br_f sl_10 (Y3 _ _ _ _ _ _ _ _ _ _ (br_t rfl ⟨rfl, J⟩)))))))))))
      · obtain ⟨r, m', ki', f', s', t', hm', hp', XA, YA⟩ := sl_app l rg w b hm hp 1 v1 v2 v3 (Or.inr (Or.inl ⟨rfl, h1, h2, h3⟩))
        exact X1 _ (br_f sl_10 (X2 _ (br_f sl_10 (X3 _ (br_f sl_10 (XA _ (Y1 _ _ _ _ _ _ _ _ _ _ (br_f sl_10 (Y2 _ _ _ _ _ _ _ _ _ _ (br_f sl_10 (Y3 _ _ _ _ _ _ _ _ _ _ (br_f sl_10 (YA _ ⟨rfl, m', l, rg, w, b, ki', f', s', t', rfl, rfl, hm', hp'⟩)))))))))))))
theorem i_vc_subtract {k : Nat} {u : SX} {v : SY} (I : i_Rel k u v) (hk : k + 4 ≤ 2048) (v1 : Int32) (v2 : Int32) (v3 : Int32) : wpX_subtract (fun r u' => wpY_subtract (fun r' v' => r' = r ∧ i_Rel (k + 4) u' v') v v1 v2 v3) u v1 v2 v3 := by
  obtain ⟨m, l, rg, w, b, ki, f, s, t, rfl, rfl, hm, hp⟩ := I
  have J : i_Rel (k + 4) (nI m, l, rg, w, b, ki, f, s, t) (nI m, l, ki, f, s, t, rg, w, b) := ⟨m, l, rg, w, b, ki, f, s, t, rfl, rfl, hm, hp⟩
  obtain ⟨r1, c1, X1, Y1⟩ := sl_reg v1
  obtain ⟨r2, c2, X2, Y2⟩ := sl_reg v2
  obtain ⟨r3, c3, X3, Y3⟩ := sl_reg v3
  unfold wpX_subtract wpX_appendArithmetic wpY_subtract; dsimp only
  rcases c1 with rfl | ⟨rfl, h1⟩
  · exact X1 _ (br_t rfl (Y1 _ _ _ _ _ _ _ _ _ _ (br_t rfl ⟨rfl, J⟩)))
  · rcases c2 with rfl | ⟨rfl, h2⟩
    · exact X1 _ (br_f sl_10 (X2 _ (br_t rfl (Y1 _ _ _ _ _ _ _ _ _ _ (br_f sl_10 (Y2 _ _ _ _ _ _ _ _ _ _ (br_t rfl ⟨rfl, J⟩)))))))
    · rcases c3 with rfl | ⟨rfl, h3⟩
      · exact X1 _ (br_f sl_10 (X2 _ (br_f sl_10 (X3 _ (br_t rfl (Y1 _ _ _ _ _ _ _ _ _ _ (br_f sl_10 (Y2 _ _ _ _ _ _ _ _ _ _ (br_f sl_10 (Y3 _ _ _ _ _ _ _ _ _ _ (br_t rfl ⟨rfl, J⟩)))))))))))
      · obtain ⟨r, m', ki', f', s', t', hm', hp', XA, YA⟩ := sl_app l rg w b hm hp 2 v1 v2 v3 (Or.inr (Or.inr (Or.inl ⟨rfl, h1, h2, h3⟩)))
        exact X1 _ (br_f sl_10 (X2 _ (br_f sl_10 (X3 _ (br_f sl_10 (XA _ (Y1 _ _ _ _ _ _ _ _ _ _ (br_f sl_10 (Y2 _ _ _ _ _ _ _ _ _ _ (br_f sl_10 (Y3 _ _ _ _ _ _ _ _ _ _ (br_f sl_10 (YA _ ⟨rfl, m', l, rg, w, b, ki', f', s', t', rfl, rfl, hm', hp'⟩)))))))))))))
theorem i_vc_load {k : Nat} {u : SX} {v : SY} (I : i_Rel k u v) (hk : k + 4 ≤ 2048) (v1 : Int32) (v2 : Int32) (v3 : Int32) : wpX_load (fun r u' => wpY_load (fun r' v' => r' = r ∧ i_Rel (k + 4) u' v') v v1 v2 v3) u v1 v2 v3 := by
  obtain ⟨m, l, rg, w, b, ki, f, s, t, rfl, rfl, hm, hp⟩ := I
  have J : i_Rel (k + 4) (nI m, l, rg, w, b, ki, f, s, t) (nI m, l, ki, f, s, t, rg, w, b) := ⟨m, l, rg, w, b, ki, f, s, t, rfl, rfl, hm, hp⟩
  obtain ⟨r1, c1, X1, Y1⟩ := sl_reg v1
  obtain ⟨r2, c2, X2, Y2⟩ := sl_reg v2
  unfold wpX_load wpX_isOffset wpY_load; dsimp only
  rcases c1 with rfl | ⟨rfl, h1⟩
  · exact X1 _ (br_t rfl (Y1 _ _ _ _ _ _ _ _ _ _ (br_t rfl ⟨rfl, J⟩)))
  · rcases c2 with rfl | ⟨rfl, h2⟩
    · exact X1 _ (br_f sl_10 (X2 _ (br_t rfl (Y1 _ _ _ _ _ _ _ _ _ _ (br_f sl_10 (Y2 _ _ _ _ _ _ _ _ _ _ (br_t rfl ⟨rfl, J⟩)))))))
    · by_cases ha : v3 < (-8)
      · exact X1 _ (br_f sl_10 (X2 _ (br_f sl_10 (br_t ha (br_t rfl (Y1 _ _ _ _ _ _ _ _ _ _ (br_f sl_10 (Y2 _ _ _ _ _ _ _ _ _ _ (br_f sl_10 (br_t ha ⟨rfl, J⟩))))))))))
      · by_cases hb : v3 ≤ 15
        · have hc : ¬ 15 < v3 := Int32.not_lt.mpr hb
          obtain ⟨r, m', ki', f', s', t', hm', hp', XA, YA⟩ := sl_app l rg w b hm hp 3 v1 v2 v3 (Or.inr (Or.inr (Or.inr (Or.inl ⟨rfl, h1, h2⟩))))
          exact X1 _ (br_f sl_10 (X2 _ (br_f sl_10 (br_f ha (br_f hc (br_f sl_10 (XA _ (Y1 _ _ _ _ _ _ _ _ _ _ (br_f sl_10 (Y2 _ _ _ _ _ _ _ _ _ _ (br_f sl_10 (br_f ha (br_t hb (YA _ ⟨rfl, m', l, rg, w, b, ki', f', s', t', rfl, rfl, hm', hp'⟩))))))))))))))
        · have hc : 15 < v3 := Int32.not_le.mp hb
          exact X1 _ (br_f sl_10 (X2 _ (br_f sl_10 (br_f ha (br_t hc (br_t rfl (Y1 _ _ _ _ _ _ _ _ _ _ (br_f sl_10 (Y2 _ _ _ _ _ _ _ _ _ _ (br_f sl_10 (br_f ha (br_f hb ⟨rfl, J⟩))))))))))))
theorem i_vc_store {k : Nat} {u : SX} {v : SY} (I : i_Rel k u v) (hk : k + 4 ≤ 2048) (v1 : Int32) (v2 : Int32) (v3 : Int32) : wpX_store (fun r u' => wpY_store (fun r' v' => r' = r ∧ i_Rel (k + 4) u' v') v v1 v2 v3) u v1 v2 v3 := by
  obtain ⟨m, l, rg, w, b, ki, f, s, t, rfl, rfl, hm, hp⟩ := I
  have J : i_Rel (k + 4) (nI m, l, rg, w, b, ki, f, s, t) (nI m, l, ki, f, s, t, rg, w, b) := ⟨m, l, rg, w, b, ki, f, s, t, rfl, rfl, hm, hp⟩
  obtain ⟨r1, c1, X1, Y1⟩ := sl_reg v1
  obtain ⟨r3, c3, X3, Y3⟩ := sl_reg v3
  unfold wpX_store wpX_isOffset wpY_store; dsimp only
  rcases c1 with rfl | ⟨rfl, h1⟩
  · exact X1 _ (br_t rfl (Y1 _ _ _ _ _ _ _ _ _ _ (br_t rfl ⟨rfl, J⟩)))
  · by_cases ha : v2 < (-8)
    · rcases c3 with rfl | ⟨rfl, h3⟩
      · exact X1 _ (br_f sl_10 (br_t ha (br_t rfl (Y1 _ _ _ _ _ _ _ _ _ _ (br_f sl_10 (Y3 _ _ _ _ _ _ _ _ _ _ (br_t rfl ⟨rfl, J⟩)))))))
      · exact X1 _ (br_f sl_10 (br_t ha (br_t rfl (Y1 _ _ _ _ _ _ _ _ _ _ (br_f sl_10 (Y3 _ _ _ _ _ _ _ _ _ _ (br_f sl_10 (br_t ha ⟨rfl, J⟩))))))))
    · by_cases hb : v2 ≤ 15
      · have hc : ¬ 15 < v2 := Int32.not_lt.mpr hb
        rcases c3 with rfl | ⟨rfl, h3⟩
        · exact X1 _ (br_f sl_10 (br_f ha (br_f hc (br_f sl_10 (X3 _ (br_t rfl (Y1 _ _ _ _ _ _ _ _ _ _ (br_f sl_10 (Y3 _ _ _ _ _ _ _ _ _ _ (br_t rfl ⟨rfl, J⟩))))))))))
        · obtain ⟨r, m', ki', f', s', t', hm', hp', XA, YA⟩ := sl_app l rg w b hm hp 4 v1 v2 v3 (Or.inr (Or.inr (Or.inr (Or.inr (Or.inl ⟨rfl, h1, h3⟩)))))
          exact X1 _ (br_f sl_10 (br_f ha (br_f hc (br_f sl_10 (X3 _ (br_f sl_10 (XA _ (Y1 _ _ _ _ _ _ _ _ _ _ (br_f sl_10 (Y3 _ _ _ _ _ _ _ _ _ _ (br_f sl_10 (br_f ha (br_t hb (YA _ ⟨rfl, m', l, rg, w, b, ki', f', s', t', rfl, rfl, hm', hp'⟩))))))))))))))
      · have hc : 15 < v2 := Int32.not_le.mp hb
        rcases c3 with rfl | ⟨rfl, h3⟩
        · exact X1 _ (br_f sl_10 (br_f ha (br_t hc (br_t rfl (Y1 _ _ _ _ _ _ _ _ _ _ (br_f sl_10 (Y3 _ _ _ _ _ _ _ _ _ _ (br_t rfl ⟨rfl, J⟩))))))))
        · exact X1 _ (br_f sl_10 (br_f ha (br_t hc (br_t rfl (Y1 _ _ _ _ _ _ _ _ _ _ (br_f sl_10 (Y3 _ _ _ _ _ _ _ _ _ _ (br_f sl_10 (br_f ha (br_f hb ⟨rfl, J⟩))))))))))
theorem i_vc_leave {k : Nat} {u : SX} {v : SY} (I : i_Rel k u v) (hk : k + 4 ≤ 2048) (v1 : Int32) : wpX_leave (fun r u' => wpY_leave (fun r' v' => r' = r ∧ i_Rel (k + 4) u' v') v v1) u v1 := by
  obtain ⟨m, l, rg, w, b, ki, f, s, t, rfl, rfl, hm, hp⟩ := I
  have J : i_Rel (k + 4) (nI m, l, rg, w, b, ki, f, s, t) (nI m, l, ki, f, s, t, rg, w, b) := ⟨m, l, rg, w, b, ki, f, s, t, rfl, rfl, hm, hp⟩
  obtain ⟨r1, c1, X1, Y1⟩ := sl_reg v1
  unfold wpX_leave wpY_leave; dsimp only
  rcases c1 with rfl | ⟨rfl, h1⟩
  · exact X1 _ (br_t rfl (Y1 _ _ _ _ _ _ _ _ _ _ (br_t rfl ⟨rfl, J⟩)))
  · obtain ⟨r, m', ki', f', s', t', hm', hp', XA, YA⟩ := sl_app l rg w b hm hp 5 v1 0 0 (Or.inr (Or.inr (Or.inr (Or.inr (Or.inr ⟨rfl, h1⟩)))))
    exact X1 _ (br_f sl_10 (XA _ (Y1 _ _ _ _ _ _ _ _ _ _ (br_f sl_10 (YA _ ⟨rfl, m', l, rg, w, b, ki', f', s', t', rfl, rfl, hm', hp'⟩)))))
theorem i_vc_size {k : Nat} {u : SX} {v : SY} (I : i_Rel k u v) (hk : k + 4 ≤ 2048) : wpX_size (fun r => wpY_size (fun r' => r' = r ∧ i_Rel (k + 4) u v) v) u := by
  obtain ⟨m, l, rg, w, b, ki, f, s, t, rfl, rfl, hm, hp⟩ := I
  exact ⟨rfl, m, l, rg, w, b, ki, f, s, t, rfl, rfl, hm, hp⟩
theorem i_vc_clear {k : Nat} {u : SX} {v : SY} (I : i_Rel k u v) (hk : k + 4 ≤ 2048) : wpX_clear (fun u' => wpY_clear (fun v' => i_Rel (k + 4) u' v') v) u := by
  obtain ⟨m, l, rg, w, b, ki, f, s, t, rfl, rfl, hm, hp⟩ := I
  exact ⟨0, l, rg, w, b, ki, f, s, t, rfl, rfl, by decide, fun _ h => absurd h (Nat.not_lt_zero _)⟩
theorem i_vc_setRegister {k : Nat} {u : SX} {v : SY} (I : i_Rel k u v) (hk : k + 4 ≤ 2048) (v1 : Int32) (v2 : Int32) : wpX_setRegister (fun r u' => wpY_setRegister (fun r' v' => r' = r ∧ i_Rel (k + 4) u' v') v v1 v2) u v1 v2 := by
  obtain ⟨m, l, rg, w, b, ki, f, s, t, rfl, rfl, hm, hp⟩ := I
  obtain ⟨r1, c1, X1, Y1⟩ := sl_reg v1
  unfold wpX_setRegister wpY_setRegister; dsimp only
  rcases c1 with rfl | ⟨rfl, h1⟩
  · exact X1 _ (br_t rfl (Y1 _ _ _ _ _ _ _ _ _ _ (br_t rfl ⟨rfl, m, l, rg, w, b, ki, f, s, t, rfl, rfl, hm, hp⟩)))
  · exact X1 _ (br_f sl_10 ⟨h1, nm_e (Y1 _ _ _ _ _ _ _ _ _ _ (br_f sl_10 ⟨h1, nm_e ⟨rfl, m, l, _, w, b, ki, f, s, t, rfl, rfl, hm, hp⟩⟩))⟩)
theorem i_vc_register {k : Nat} {u : SX} {v : SY} (I : i_Rel k u v) (hk : k + 4 ≤ 2048) (v1 : Int32) : wpX_register (fun r => wpY_register (fun r' => r' = r ∧ i_Rel (k + 4) u v) v v1) u v1 := by
  obtain ⟨m, l, rg, w, b, ki, f, s, t, rfl, rfl, hm, hp⟩ := I
  have J : i_Rel (k + 4) (nI m, l, rg, w, b, ki, f, s, t) (nI m, l, ki, f, s, t, rg, w, b) := ⟨m, l, rg, w, b, ki, f, s, t, rfl, rfl, hm, hp⟩
  obtain ⟨r1, c1, X1, Y1⟩ := sl_reg v1
  unfold wpX_register wpY_register; dsimp only
  rcases c1 with rfl | ⟨rfl, h1⟩
  · exact X1 _ (br_t rfl (Y1 _ _ _ _ _ _ _ _ _ _ (br_t rfl ⟨rfl, J⟩)))
  · exact X1 _ (br_f sl_10 ⟨h1, Y1 _ _ _ _ _ _ _ _ _ _ (br_f sl_10 ⟨h1, rfl, J⟩)⟩)
theorem i_vc_setWord {k : Nat} {u : SX} {v : SY} (I : i_Rel k u v) (hk : k + 4 ≤ 2048) (v1 : Int32) (v2 : Int32) : wpX_setWord (fun r u' => wpY_setWord (fun r' v' => r' = r ∧ i_Rel (k + 4) u' v') v v1 v2) u v1 v2 := by
  obtain ⟨m, l, rg, w, b, ki, f, s, t, rfl, rfl, hm, hp⟩ := I
  obtain ⟨r1, c1, X1, Y1⟩ := sl_adr v1
  unfold wpX_setWord wpY_setWord; dsimp only
  rcases c1 with rfl | ⟨rfl, h1⟩
  · exact X1 _ (br_t rfl (Y1 _ _ _ _ _ _ _ _ _ _ (br_t rfl ⟨rfl, m, l, rg, w, b, ki, f, s, t, rfl, rfl, hm, hp⟩)))
  · exact X1 _ (br_f sl_10 ⟨h1, nm_e (Y1 _ _ _ _ _ _ _ _ _ _ (br_f sl_10 ⟨h1, nm_e ⟨rfl, m, l, rg, _, b, ki, f, s, t, rfl, rfl, hm, hp⟩⟩))⟩)
theorem i_vc_word {k : Nat} {u : SX} {v : SY} (I : i_Rel k u v) (hk : k + 4 ≤ 2048) (v1 : Int32) : wpX_word (fun r => wpY_word (fun r' => r' = r ∧ i_Rel (k + 4) u v) v v1) u v1 := by
  obtain ⟨m, l, rg, w, b, ki, f, s, t, rfl, rfl, hm, hp⟩ := I
  have J : i_Rel (k + 4) (nI m, l, rg, w, b, ki, f, s, t) (nI m, l, ki, f, s, t, rg, w, b) := ⟨m, l, rg, w, b, ki, f, s, t, rfl, rfl, hm, hp⟩
  obtain ⟨r1, c1, X1, Y1⟩ := sl_adr v1
  unfold wpX_word wpY_word; dsimp only
  rcases c1 with rfl | ⟨rfl, h1⟩
  · exact X1 _ (br_t rfl (Y1 _ _ _ _ _ _ _ _ _ _ (br_t rfl ⟨rfl, J⟩)))
  · exact X1 _ (br_f sl_10 ⟨h1, Y1 _ _ _ _ _ _ _ _ _ _ (br_f sl_10 ⟨h1, rfl, J⟩)⟩)
theorem i_vc_bar {k : Nat} {u : SX} {v : SY} (I : i_Rel k u v) (hk : k + 4 ≤ 2048) (v1 : Int32) (v2 : Int32) : wpX_bar (fun r u' => wpY_bar (fun r' v' => r' = r ∧ i_Rel (k + 4) u' v') v v1 v2) u v1 v2 := by
  obtain ⟨m, l, rg, w, b, ki, f, s, t, rfl, rfl, hm, hp⟩ := I
  obtain ⟨r1, c1, X1, Y1⟩ := sl_adr v1
  unfold wpX_bar wpY_bar wX_bar_23 wY_bar_24; dsimp only
  rcases c1 with rfl | ⟨rfl, h1⟩
  · exact X1 _ (br_t rfl (Y1 _ _ _ _ _ _ _ _ _ _ (br_t rfl ⟨rfl, m, l, rg, w, b, ki, f, s, t, rfl, rfl, hm, hp⟩)))
  · by_cases z : b v1.toNatClampNeg = 0
    · by_cases z2 : v2 = 0
      · exact X1 _ (br_f sl_10 ⟨h1, br_t z (br_t z2 ⟨h1, nm_e (Y1 _ _ _ _ _ _ _ _ _ _ (br_f sl_10 ⟨h1, br_t z (br_t z2 ⟨h1, nm_e ⟨rfl, m, l, rg, w, _, ki, f, s, t, rfl, rfl, hm, hp⟩⟩)⟩))⟩)⟩)
      · exact X1 _ (br_f sl_10 ⟨h1, br_t z (br_f z2 ⟨h1, nm_e (Y1 _ _ _ _ _ _ _ _ _ _ (br_f sl_10 ⟨h1, br_t z (br_f z2 ⟨h1, nm_e ⟨rfl, m, l, rg, w, _, ki, f, s, t, rfl, rfl, hm, hp⟩⟩)⟩))⟩)⟩)
    · by_cases z2 : v2 = 0
      · exact X1 _ (br_f sl_10 ⟨h1, br_f z (br_t z2 ⟨h1, nm_e (Y1 _ _ _ _ _ _ _ _ _ _ (br_f sl_10 ⟨h1, br_f z (br_t z2 ⟨h1, nm_e ⟨rfl, m, l, rg, w, _, ki, f, s, t, rfl, rfl, hm, hp⟩⟩)⟩))⟩)⟩)
      · exact X1 _ (br_f sl_10 ⟨h1, br_f z (br_f z2 ⟨h1, nm_e (Y1 _ _ _ _ _ _ _ _ _ _ (br_f sl_10 ⟨h1, br_f z (br_f z2 ⟨h1, nm_e ⟨rfl, m, l, rg, w, _, ki, f, s, t, rfl, rfl, hm, hp⟩⟩)⟩))⟩)⟩)
theorem i_vc_run {k : Nat} {u : SX} {v : SY} (I : i_Rel k u v) (hk : k + 4 ≤ 2048) : wpX_run (fun r u' => wpY_run (fun r' v' => r' = r ∧ i_Rel (k + 4) u' v') v) u := by
  obtain ⟨m, l, rg, w, b, ki, f, s, t, rfl, rfl, hm, hp⟩ := I
  obtain ⟨r, rg', w', hX, hY⟩ := sl_run b l l rg w hm hp
  exact hX _ (hY _ ⟨rfl, m, r, rg', w', b, ki, f, s, t, rfl, rfl, hm, hp⟩)
theorem i_vc_last {k : Nat} {u : SX} {v : SY} (I : i_Rel k u v) (hk : k + 4 ≤ 2048) : wpX_last (fun r => wpY_last (fun r' => r' = r ∧ i_Rel (k + 4) u v) v) u := by
  obtain ⟨m, l, rg, w, b, ki, f, s, t, rfl, rfl, hm, hp⟩ := I
  exact ⟨rfl, m, l, rg, w, b, ki, f, s, t, rfl, rfl, hm, hp⟩
theorem i_vc_repeat {k : Nat} {u : SX} {v : SY} (I : i_Rel k u v) (hk : k + 4 ≤ 2048) (v1 : Int32) : wpX_repeat (fun r u' => wpY_repeat (fun r' v' => r' = r ∧ i_Rel (k + 4) u' v') v v1) u v1 := by
  obtain ⟨m, l, rg, w, b, ki, f, s, t, rfl, rfl, hm, hp⟩ := I
  unfold wpX_repeat wpY_repeat; dsimp only
  have i10 : (1 : Int32) = 0 ↔ ¬ (0 : Int32) = 0 := ⟨fun y => absurd y sl_10, fun y => absurd rfl y⟩
  by_cases h0 : 0 ≤ v1
  · by_cases h8 : v1 ≤ 8
    · obtain ⟨q, hq, rfl⟩ := nI_of2 (M := 8) (n := 8) (by decide) (Int32.not_lt.mpr h0) h8
      obtain ⟨r, l', rg', w', hX, hY⟩ := sl_rep b q hq hm hp q 0 1 0 l rg w (by omega) i10
      rw [nI_0] at hX hY
      exact br_t h8 ⟨q + 1, hX _ (br_t h0 (br_t h8 ⟨q + 1, hY _ ⟨rfl, m, l', rg', w', b, ki, f, s, t, rfl, rfl, hm, hp⟩⟩))⟩
    · obtain ⟨r, l', rg', w', hX, hY⟩ := sl_rep b 8 (by omega) hm hp 8 0 1 0 l rg w (by omega) i10
      rw [nI_0] at hX hY
      exact br_f h8 ⟨8 + 1, hX _ (br_t h0 (br_f h8 ⟨8 + 1, hY _ ⟨rfl, m, l', rg', w', b, ki, f, s, t, rfl, rfl, hm, hp⟩⟩))⟩
  · have hn : v1 ≤ 0 := Int32.le_of_lt (Int32.not_le.mp h0)
    have h8 : v1 ≤ 8 := Int32.le_trans hn (by decide)
    refine br_t h8 ⟨1, ?_⟩
    rw [wX_repeat_18]
    refine br_f sl_10 (br_t hn (br_f h0 ⟨1, ?_⟩))
    rw [wY_repeat_26]
    exact br_t (by decide) ⟨rfl, m, l, rg, w, b, ki, f, s, t, rfl, rfl, hm, hp⟩
