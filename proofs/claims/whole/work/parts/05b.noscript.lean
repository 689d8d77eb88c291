/-! ===== a run that doesn't touch the script is the same for every script ===== -/
def am_X0 : Nat × (Nat → Int32) := (5000, fun _ => 0)
theorem am_step_X0 {X : Nat × (Nat → Int32)} {e9 : am_E} {j : Nat} {ls st : List Value} {M : am_M} {r9 : am_Act} (h : am_step am_X0 e9 j ls st M = some r9) : am_step X e9 j ls st M = some r9 := by
  obtain ⟨i9, p0, r1, r2, r3⟩ := e9
  cases i9
  case iaload =>
    simp only [am_step, am_iald] at h ⊢
    split at h
    · split at h
      · rename_i h6
        rw [if_pos h6]
        split at h
        · rename_i h7
          exact absurd h7.2 (by decide)
        · cases h
      · rename_i h6
        rw [if_neg h6]
        exact h
    · cases h
  case arraylength =>
    simp only [am_step, am_alen] at h ⊢
    split at h
    · split at h
      · rename_i h6
        exact absurd h6.2 (by decide)
      · cases h
    · cases h
  all_goals exact h
theorem am_ex_X0 {X : Nat × (Nat → Int32)} : ∀ (n : Nat) {d mid j : Nat} {ls st : List Value} {M : am_M} {r9 : Option Value × am_M}, am_ex am_X0 n d mid j ls st M = some r9 → am_ex X n d mid j ls st M = some r9 := by
  intro n
  induction n with
  | zero => intro d mid j ls st M r9 h; simp [am_ex] at h
  | succ n ih =>
    intro d mid j ls st M r9 h
    simp only [am_ex] at h ⊢
    cases hb : (am_cd mid j).bind (fun e => am_step am_X0 e j ls st M) with
    | none => rw [hb] at h; cases h
    | some a9 =>
      rw [hb] at h
      obtain ⟨e9, hc, hs⟩ := Option.bind_eq_some_iff.mp hb
      have hb2 : (am_cd mid j).bind (fun e => am_step X e j ls st M) = some a9 := by
        rw [hc]
        exact am_step_X0 hs
      rw [hb2]
      match a9, h with
      | .inl q, h => exact ih h
      | .inr (.inr u9), h => exact h
      | .inr (.inl q), h =>
        match d, h with
        | d + 1, h =>
          simp only at h ⊢
          split at h
          · rename_i hl
            rw [if_pos hl]
            cases h1 : am_ex am_X0 n d q.1 0 (am_ent (am_nL q.1) q.2.1) [] M with
            | none => rw [h1] at h; cases h
            | some r1 =>
              rw [h1] at h
              rw [ih h1]
              exact ih h
          · cases h
theorem am_wp_X0 {X : Nat × (Nat → Int32)} {d mid j : Nat} {ls st : List Value} {M : am_M} {Q : Option Value → am_M → Prop} (h : am_wp am_X0 d mid j ls st M Q) : am_wp X d mid j ls st M Q := by
  obtain ⟨n, v, M1, h, hq⟩ := h
  exact ⟨n, v, M1, am_ex_X0 n h, hq⟩
