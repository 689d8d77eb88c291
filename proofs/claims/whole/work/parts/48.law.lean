/-! ===== the law ===== -/
theorem R_init {mi : Nat → Nat → Int32} {ml : Nat → Nat → Int64} (h : am_Init mi ml) : R mi ml false := by
  have hz : ∀ p q : Nat, (∀ k, mi p k = 0) → (∀ k, mi q k = 0) → ∀ k, mi p k = mi q k := fun p q h1 h2 k => (h1 k).trans (h2 k).symm
  refine ⟨0, 0, (h.1.1).trans (h.2.2.2.2.2.2.2.2.2.2.2.2.2.2.2.2.2.2.2.2.1.2.2.2.2.2.2.2.2.2.2.2).symm, ⟨h.1.2.1, h.2.2.2.2.2.2.2.2.2.2.2.2.2.2.2.2.2.2.2.2.2.1.2.2.2.1, by decide⟩, ⟨h.1.2.2.1, h.2.2.2.2.2.2.2.2.2.2.2.2.2.2.2.2.2.2.2.2.2.1.2.2.2.2.1, by decide⟩, fun s hs => ⟨fun h9 => absurd h9 (Nat.not_lt_zero _), fun _ => ?_⟩, fun k hk => ?_, fun k hk => ?_, ⟨0, h.2.1.2.2.2.1, h.2.2.2.2.2.2.2.2.2.2.2.2.2.2.2.2.2.2.2.2.2.1.2.2.2.2.2.1, by decide, fun k hk => absurd hk (Nat.not_lt_zero _)⟩, ⟨0, h.2.1.2.2.2.2.2.2.2.1, h.2.2.2.2.2.2.2.2.2.2.2.2.2.2.2.2.2.2.2.2.2.1.2.2.2.2.2.2.1, by decide, fun k hk => absurd hk (Nat.not_lt_zero _)⟩, ⟨0, h.2.2.2.2.2.2.1.2.2.2.2.2.2.2.2.2.2.1, h.2.2.2.2.2.2.2.2.2.2.2.2.2.2.2.2.2.2.2.2.2.1.2.2.2.2.2.2.2.2.2.2.2, by decide, fun k hk => absurd hk (Nat.not_lt_zero _)⟩, ⟨0, h.2.2.2.2.2.2.2.2.2.2.2.2.2.1.2.2.2.2.2.1, h.2.2.2.2.2.2.2.2.2.2.2.2.2.2.2.2.2.2.2.2.2.2.1.2.2.2.2.2.2.2.2.2.2.2, by decide, fun k hk => absurd hk (Nat.not_lt_zero _)⟩, ⟨(h.2.2.2.2.2.2.2.1.2.2.2.2.2.2.2.1).trans (h.2.2.2.2.2.2.2.2.2.2.2.2.2.2.2.2.2.2.2.2.2.2.1.2.1).symm, (h.2.2.2.2.2.2.2.1.2.2.2.2.2.2.2.2.1).trans (h.2.2.2.2.2.2.2.2.2.2.2.2.2.2.2.2.2.2.2.2.2.2.1.2.2.1).symm⟩, ⟨0, h.2.2.2.2.2.2.2.2.2.2.1.2.1, h.2.2.2.2.2.2.2.2.2.2.2.2.2.2.2.2.2.2.2.2.2.1.2.2.2.2.2.2.2.1, by decide, fun k hk => absurd hk (Nat.not_lt_zero _), fun i j hi => absurd hi (Nat.not_lt_zero _), fun m hm s hs => ?_, (h.2.2.2.2.2.2.2.2.2.2.1.2.2.1).trans (h.2.2.2.2.2.2.2.2.2.2.2.2.2.2.2.2.2.2.2.2.2.1.2.2.2.2.2.2.2.2.1).symm, (h.2.2.2.2.2.2.2.2.2.2.1.2.2.2.1).trans (h.2.2.2.2.2.2.2.2.2.2.2.2.2.2.2.2.2.2.2.2.2.1.2.2.2.2.2.2.2.2.2.1).symm, by rw [h.2.2.2.2.2.2.2.2.2.2.1.2.2.1]; exact ⟨by decide, by decide⟩, by rw [h.2.2.2.2.2.2.2.2.2.2.1.2.2.2.1]; exact ⟨by decide, by decide⟩, Or.inl (h.2.2.2.2.2.2.2.2.2.2.1.2.2.2.2.2.1)⟩, ⟨0, by decide, h.2.2.2.2.2.2.2.2.2.2.2.2.2.2.2.2.2.2.2.2.2.1.2.2.2.2.2.2.2.2.2.2.1, fun k hk => absurd hk (Nat.not_lt_zero _), fun m hm r hr => ?_, fun r hr => ⟨h.2.2.2.2.2.2.2.2.2.2.2.2.2.1.2.1 r, h.2.2.2.2.2.2.2.2.2.2.2.2.2.1.2.2.1 r⟩, h.2.2.2.2.2.2.2.2.2.2.2.1.2.2.2.2.2.2.2.1, h.2.2.2.2.2.2.2.2.2.2.2.1.2.2.2.2.2.2.2.2.1⟩, ⟨(h.2.2.2.2.2.2.2.2.2.2.2.2.2.1.2.2.2.1).trans (h.2.2.2.2.2.2.2.2.2.2.2.2.2.2.2.2.2.2.2.2.2.1.2.1).symm, (h.2.2.2.2.2.2.2.2.2.2.2.2.2.1.2.2.2.2.1).trans (h.2.2.2.2.2.2.2.2.2.2.2.2.2.2.2.2.2.2.2.2.2.1.2.2.1).symm⟩⟩
  · rcases s with _ | _ | _ | _ | _ | _ | _ | _ | s
    · exact ⟨h.2.2.2.2.2.2.2.2.2.2.2.2.2.2.2.1.2.2.2.2.2.2.2.1, h.2.2.2.2.2.2.2.2.2.2.2.2.2.2.2.1.2.2.2.2.2.2.2.2.1, h.2.2.2.2.2.2.2.2.2.2.2.2.2.2.2.1.2.2.2.2.2.2.2.2.2.1, h.2.2.2.2.2.2.2.2.2.2.2.2.2.2.2.1.2.2.2.2.2.2.2.2.2.2.1, h.2.2.2.2.2.2.2.2.2.2.2.2.2.2.2.1.2.2.2.2.2.2.2.2.2.2.2, h.2.2.2.2.2.2.2.2.2.2.2.2.2.2.2.2.1.1, h.2.2.2.2.2.2.2.2.2.2.2.2.2.2.2.2.1.2.1, h.2.2.2.2.2.2.2.2.2.2.2.2.2.2.2.2.1.2.2.1⟩
    · exact ⟨h.2.2.2.2.2.2.2.2.2.2.2.2.2.2.2.2.1.2.2.2.1, h.2.2.2.2.2.2.2.2.2.2.2.2.2.2.2.2.1.2.2.2.2.1, h.2.2.2.2.2.2.2.2.2.2.2.2.2.2.2.2.1.2.2.2.2.2.1, h.2.2.2.2.2.2.2.2.2.2.2.2.2.2.2.2.1.2.2.2.2.2.2.1, h.2.2.2.2.2.2.2.2.2.2.2.2.2.2.2.2.1.2.2.2.2.2.2.2.1, h.2.2.2.2.2.2.2.2.2.2.2.2.2.2.2.2.1.2.2.2.2.2.2.2.2.1, h.2.2.2.2.2.2.2.2.2.2.2.2.2.2.2.2.1.2.2.2.2.2.2.2.2.2.1, h.2.2.2.2.2.2.2.2.2.2.2.2.2.2.2.2.1.2.2.2.2.2.2.2.2.2.2.1⟩
    · exact ⟨h.2.2.2.2.2.2.2.2.2.2.2.2.2.2.2.2.1.2.2.2.2.2.2.2.2.2.2.2, h.2.2.2.2.2.2.2.2.2.2.2.2.2.2.2.2.2.1.1, h.2.2.2.2.2.2.2.2.2.2.2.2.2.2.2.2.2.1.2.1, h.2.2.2.2.2.2.2.2.2.2.2.2.2.2.2.2.2.1.2.2.1, h.2.2.2.2.2.2.2.2.2.2.2.2.2.2.2.2.2.1.2.2.2.1, h.2.2.2.2.2.2.2.2.2.2.2.2.2.2.2.2.2.1.2.2.2.2.1, h.2.2.2.2.2.2.2.2.2.2.2.2.2.2.2.2.2.1.2.2.2.2.2.1, h.2.2.2.2.2.2.2.2.2.2.2.2.2.2.2.2.2.1.2.2.2.2.2.2.1⟩
    · exact ⟨h.2.2.2.2.2.2.2.2.2.2.2.2.2.2.2.2.2.1.2.2.2.2.2.2.2.1, h.2.2.2.2.2.2.2.2.2.2.2.2.2.2.2.2.2.1.2.2.2.2.2.2.2.2.1, h.2.2.2.2.2.2.2.2.2.2.2.2.2.2.2.2.2.1.2.2.2.2.2.2.2.2.2.1, h.2.2.2.2.2.2.2.2.2.2.2.2.2.2.2.2.2.1.2.2.2.2.2.2.2.2.2.2.1, h.2.2.2.2.2.2.2.2.2.2.2.2.2.2.2.2.2.1.2.2.2.2.2.2.2.2.2.2.2, h.2.2.2.2.2.2.2.2.2.2.2.2.2.2.2.2.2.2.1.1, h.2.2.2.2.2.2.2.2.2.2.2.2.2.2.2.2.2.2.1.2.1, h.2.2.2.2.2.2.2.2.2.2.2.2.2.2.2.2.2.2.1.2.2.1⟩
    · exact ⟨h.2.2.2.2.2.2.2.2.2.2.2.2.2.2.2.2.2.2.1.2.2.2.1, h.2.2.2.2.2.2.2.2.2.2.2.2.2.2.2.2.2.2.1.2.2.2.2.1, h.2.2.2.2.2.2.2.2.2.2.2.2.2.2.2.2.2.2.1.2.2.2.2.2.1, h.2.2.2.2.2.2.2.2.2.2.2.2.2.2.2.2.2.2.1.2.2.2.2.2.2.1, h.2.2.2.2.2.2.2.2.2.2.2.2.2.2.2.2.2.2.1.2.2.2.2.2.2.2.1, h.2.2.2.2.2.2.2.2.2.2.2.2.2.2.2.2.2.2.1.2.2.2.2.2.2.2.2.1, h.2.2.2.2.2.2.2.2.2.2.2.2.2.2.2.2.2.2.1.2.2.2.2.2.2.2.2.2.1, h.2.2.2.2.2.2.2.2.2.2.2.2.2.2.2.2.2.2.1.2.2.2.2.2.2.2.2.2.2.1⟩
    · exact ⟨h.2.2.2.2.2.2.2.2.2.2.2.2.2.2.2.2.2.2.1.2.2.2.2.2.2.2.2.2.2.2, h.2.2.2.2.2.2.2.2.2.2.2.2.2.2.2.2.2.2.2.1.1, h.2.2.2.2.2.2.2.2.2.2.2.2.2.2.2.2.2.2.2.1.2.1, h.2.2.2.2.2.2.2.2.2.2.2.2.2.2.2.2.2.2.2.1.2.2.1, h.2.2.2.2.2.2.2.2.2.2.2.2.2.2.2.2.2.2.2.1.2.2.2.1, h.2.2.2.2.2.2.2.2.2.2.2.2.2.2.2.2.2.2.2.1.2.2.2.2.1, h.2.2.2.2.2.2.2.2.2.2.2.2.2.2.2.2.2.2.2.1.2.2.2.2.2.1, h.2.2.2.2.2.2.2.2.2.2.2.2.2.2.2.2.2.2.2.1.2.2.2.2.2.2.1⟩
    · exact ⟨h.2.2.2.2.2.2.2.2.2.2.2.2.2.2.2.2.2.2.2.1.2.2.2.2.2.2.2.1, h.2.2.2.2.2.2.2.2.2.2.2.2.2.2.2.2.2.2.2.1.2.2.2.2.2.2.2.2.1, h.2.2.2.2.2.2.2.2.2.2.2.2.2.2.2.2.2.2.2.1.2.2.2.2.2.2.2.2.2.1, h.2.2.2.2.2.2.2.2.2.2.2.2.2.2.2.2.2.2.2.1.2.2.2.2.2.2.2.2.2.2.1, h.2.2.2.2.2.2.2.2.2.2.2.2.2.2.2.2.2.2.2.1.2.2.2.2.2.2.2.2.2.2.2, h.2.2.2.2.2.2.2.2.2.2.2.2.2.2.2.2.2.2.2.2.1.1, h.2.2.2.2.2.2.2.2.2.2.2.2.2.2.2.2.2.2.2.2.1.2.1, h.2.2.2.2.2.2.2.2.2.2.2.2.2.2.2.2.2.2.2.2.1.2.2.1⟩
    · exact ⟨h.2.2.2.2.2.2.2.2.2.2.2.2.2.2.2.2.2.2.2.2.1.2.2.2.1, h.2.2.2.2.2.2.2.2.2.2.2.2.2.2.2.2.2.2.2.2.1.2.2.2.2.1, h.2.2.2.2.2.2.2.2.2.2.2.2.2.2.2.2.2.2.2.2.1.2.2.2.2.2.1, h.2.2.2.2.2.2.2.2.2.2.2.2.2.2.2.2.2.2.2.2.1.2.2.2.2.2.2.1, h.2.2.2.2.2.2.2.2.2.2.2.2.2.2.2.2.2.2.2.2.1.2.2.2.2.2.2.2.1, h.2.2.2.2.2.2.2.2.2.2.2.2.2.2.2.2.2.2.2.2.1.2.2.2.2.2.2.2.2.1, h.2.2.2.2.2.2.2.2.2.2.2.2.2.2.2.2.2.2.2.2.1.2.2.2.2.2.2.2.2.2.1, h.2.2.2.2.2.2.2.2.2.2.2.2.2.2.2.2.2.2.2.2.1.2.2.2.2.2.2.2.2.2.2.1⟩
    · omega
  · refine ⟨(h.1.2.2.2.2.2.2.2.2.2.2.2 k).trans (h.2.2.2.2.2.2.2.2.2.2.2.2.2.2.2.2.2.2.2.2.2.2.2.1.2.2.2.2.1 k).symm, (h.2.1.1 k).trans (h.2.2.2.2.2.2.2.2.2.2.2.2.2.2.2.2.2.2.2.2.2.2.2.1.2.2.2.2.2.1 k).symm, ?_, ?_⟩
    · rw [h.1.2.2.2.2.2.2.2.2.2.2.2 k]; exact ⟨by decide, by decide⟩
    · rw [h.2.1.1 k]; exact ⟨by decide, by decide⟩
  · refine ⟨(h.2.1.2.1 k).trans (h.2.2.2.2.2.2.2.2.2.2.2.2.2.2.2.2.2.2.2.2.2.2.2.1.2.2.2.2.2.2.1 k).symm, (h.2.1.2.2.1 k).trans (h.2.2.2.2.2.2.2.2.2.2.2.2.2.2.2.2.2.2.2.2.2.2.2.1.2.2.2.2.2.2.2.1 k).symm, ?_, ?_⟩
    · rw [h.2.1.2.1 k]; exact ⟨by decide, by decide⟩
    · rw [h.2.1.2.2.1 k]; exact ⟨by decide, by decide⟩
  · have h50 : ∀ x : Int32, x = 50 → rB x 0 100 ∧ (m < 0 → x = mi 150 (8 * m + s)) ∧ (0 ≤ m → x = 50) := fun x hx => ⟨by rw [hx]; exact ⟨by decide, by decide⟩, fun h9 => absurd h9 (Nat.not_lt_zero _), fun _ => hx⟩
    refine h50 _ ?_
    rcases m with _ | _ | _ | _ | _ | _ | _ | _ | m
    · exact h.2.2.2.2.2.2.2.2.2.2.1.2.2.2.2.2.2.2.2.1 s hs
    · exact h.2.2.2.2.2.2.2.2.2.2.1.2.2.2.2.2.2.2.2.2.1 s hs
    · exact h.2.2.2.2.2.2.2.2.2.2.1.2.2.2.2.2.2.2.2.2.2.1 s hs
    · exact h.2.2.2.2.2.2.2.2.2.2.1.2.2.2.2.2.2.2.2.2.2.2 s hs
    · exact h.2.2.2.2.2.2.2.2.2.2.2.1.1 s hs
    · exact h.2.2.2.2.2.2.2.2.2.2.2.1.2.1 s hs
    · exact h.2.2.2.2.2.2.2.2.2.2.2.1.2.2.1 s hs
    · exact h.2.2.2.2.2.2.2.2.2.2.2.1.2.2.2.1 s hs
    · omega
  · have h00 : ∀ x y : Int32, x = 0 → y = 0 → x = Int32.ofNat 0 ∧ y = Int32.ofNat 0 := fun x y hx hy => ⟨hx, hy⟩
    refine h00 _ _ ?_ ?_
    · rcases m with _ | _ | _ | _ | _ | _ | _ | _ | m
      · exact h.2.2.2.2.2.2.2.2.2.2.2.1.2.2.2.2.2.2.2.2.2.1 r
      · exact h.2.2.2.2.2.2.2.2.2.2.2.1.2.2.2.2.2.2.2.2.2.2.1 r
      · exact h.2.2.2.2.2.2.2.2.2.2.2.1.2.2.2.2.2.2.2.2.2.2.2 r
      · exact h.2.2.2.2.2.2.2.2.2.2.2.2.1.1 r
      · exact h.2.2.2.2.2.2.2.2.2.2.2.2.1.2.1 r
      · exact h.2.2.2.2.2.2.2.2.2.2.2.2.1.2.2.1 r
      · exact h.2.2.2.2.2.2.2.2.2.2.2.2.1.2.2.2.1 r
      · exact h.2.2.2.2.2.2.2.2.2.2.2.2.1.2.2.2.2.1 r
      · omega
    · rcases m with _ | _ | _ | _ | _ | _ | _ | _ | m
      · exact h.2.2.2.2.2.2.2.2.2.2.2.2.1.2.2.2.2.2.1 r
      · exact h.2.2.2.2.2.2.2.2.2.2.2.2.1.2.2.2.2.2.2.1 r
      · exact h.2.2.2.2.2.2.2.2.2.2.2.2.1.2.2.2.2.2.2.2.1 r
      · exact h.2.2.2.2.2.2.2.2.2.2.2.2.1.2.2.2.2.2.2.2.2.1 r
      · exact h.2.2.2.2.2.2.2.2.2.2.2.2.1.2.2.2.2.2.2.2.2.2.1 r
      · exact h.2.2.2.2.2.2.2.2.2.2.2.2.1.2.2.2.2.2.2.2.2.2.2.1 r
      · exact h.2.2.2.2.2.2.2.2.2.2.2.2.1.2.2.2.2.2.2.2.2.2.2.2 r
      · exact h.2.2.2.2.2.2.2.2.2.2.2.2.2.1.1 r
      · omega
theorem lg_self (v : Int64) : lg_cmp v v = 0 := by
  unfold lg_cmp
  rw [if_neg (show ¬ v > v from Int64.lt_irrefl), if_pos rfl]
theorem wn_ialoadX {X : Nat × (Nat → Int32)} {d mid j : Nat} {ls st : List Value} {Q : Option Value → am_M → Prop} {p r1 r2 r3 q : Nat} {x v : Int32} {M : am_M} (hc : am_cd mid j = some (.iaload, p, r1, r2, r3)) (hX : X.1 ≤ 4096) (hx : x = Int32.ofNat q) (hq : q < X.1) (hv : X.2 q = v) (k : am_wp X d mid (j + 1) ls (.int v :: st) M Q) : am_wp X d mid j ls (.int x :: .ref 1000050 :: st) M Q := wi_ialoadX hc hX (ix_n hx hq (by omega)) (cl_n hx (by omega)) (by rw [hv]; exact k)
theorem l8 {L i : Nat} (hL : L ≤ 4096) (hi : i ≤ 8192) : (Int32.ofNat L - 8 < Int32.ofNat i) ↔ L < i + 8 := by
  rw [Int32.lt_iff_toInt_lt, Int32.toInt_sub, i32_toInt (by omega), i32_toInt (by omega), show (8 : Int32).toInt = 8 from rfl, Int.bmod_eq_of_le (by omega) (by omega)]
  omega
set_option maxRecDepth 100000 in
theorem lw_status {L : Nat} {xs : Nat → Int32} {Q : Option Value → am_M → Prop} {mi : Nat → Nat → Int32} {ml : Nat → Nat → Int64} {b : Bool} {i : Nat} (hL : L ≤ 4096) (hi : i + 8 ≤ L) (hR : R mi ml b) (hQ : ∀ mi3 ml3 b3, R mi3 ml3 b3 → am_wp (L, xs) 30 204 10 [.ref 1000050, .ref 0, .ref 134, .int (Int32.ofNat (i + 8))] [] (am_shT, mrL b3, mi3, ml3) Q) : am_wp (L, xs) 30 204 21 [.ref 1000050, .ref 0, .ref 134, .int (Int32.ofNat (i))] [.int 0] (am_shT, mrL b, mi, ml) Q := by
  refine wi_tsw (t := 22) rfl rfl (by decide) rfl ?_
  refine wi_aload_n rfl rfl ?_
  refine wi_callV0 rfl (by decide) (by decide) rfl (kd_0 ..) rfl rfl rfl (a_status mi ml b hR _ (fun v mi2 ml2 b2 hm => ?_))
  refine wi_aload_n rfl rfl ?_
  refine wi_callV0 rfl (by decide) (by decide) rfl (kd_134 ..) rfl rfl rfl (hm _ (fun mi3 ml3 b3 hR3 => ?_))
  refine wi_icmp_eq rfl (fun _ => ?_) (fun h9 => absurd rfl h9)
  refine wi_iinc (z := (Int32.ofNat (i + 8))) rfl rfl rfl (add_n (a := i) (b := 8) rfl rfl) rfl ?_
  refine wi_goto rfl ?_
  exact hQ mi3 ml3 b3 hR3
set_option maxRecDepth 100000 in
theorem lw_strip {L : Nat} {xs : Nat → Int32} {Q : Option Value → am_M → Prop} {mi : Nat → Nat → Int32} {ml : Nat → Nat → Int64} {b : Bool} {i : Nat} (hL : L ≤ 4096) (hi : i + 8 ≤ L) (hR : R mi ml b) (hQ : ∀ mi3 ml3 b3, R mi3 ml3 b3 → am_wp (L, xs) 30 204 10 [.ref 1000050, .ref 0, .ref 134, .int (Int32.ofNat (i + 8))] [] (am_shT, mrL b3, mi3, ml3) Q) : am_wp (L, xs) 30 204 21 [.ref 1000050, .ref 0, .ref 134, .int (Int32.ofNat (i))] [.int 1] (am_shT, mrL b, mi, ml) Q := by
  refine wi_tsw (t := 29) rfl rfl (by decide) rfl ?_
  refine wi_aload_n rfl rfl ?_
  refine wi_callV0 rfl (by decide) (by decide) rfl (kd_0 ..) rfl rfl rfl (a_strip mi ml b hR _ (fun v mi2 ml2 b2 hm => ?_))
  refine wi_aload_n rfl rfl ?_
  refine wi_callV0 rfl (by decide) (by decide) rfl (kd_134 ..) rfl rfl rfl (hm _ (fun mi3 ml3 b3 hR3 => ?_))
  refine wi_icmp_eq rfl (fun _ => ?_) (fun h9 => absurd rfl h9)
  refine wi_iinc (z := (Int32.ofNat (i + 8))) rfl rfl rfl (add_n (a := i) (b := 8) rfl rfl) rfl ?_
  refine wi_goto rfl ?_
  exact hQ mi3 ml3 b3 hR3
set_option maxRecDepth 100000 in
theorem lw_set {L : Nat} {xs : Nat → Int32} {Q : Option Value → am_M → Prop} {mi : Nat → Nat → Int32} {ml : Nat → Nat → Int64} {b : Bool} {i : Nat} (hL : L ≤ 4096) (hi : i + 8 ≤ L) (hR : R mi ml b) (hQ : ∀ mi3 ml3 b3, R mi3 ml3 b3 → am_wp (L, xs) 30 204 10 [.ref 1000050, .ref 0, .ref 134, .int (Int32.ofNat (i + 8))] [] (am_shT, mrL b3, mi3, ml3) Q) : am_wp (L, xs) 30 204 21 [.ref 1000050, .ref 0, .ref 134, .int (Int32.ofNat (i))] [.int 2] (am_shT, mrL b, mi, ml) Q := by
  refine wi_tsw (t := 36) rfl rfl (by decide) rfl ?_
  refine wi_aload_n rfl rfl ?_
  refine wi_aload_n rfl rfl ?_
  refine wi_iload_n rfl rfl ?_
  refine wi_iconst (x := 1) rfl rfl ?_
  refine wn_iadd (z := (Int32.ofNat (i + 1))) rfl (add_n (a := i) (b := 1) rfl (rfl : (1 : Int32) = Int32.ofNat 1)) ?_
  refine wn_ialoadX (q := i + 1) rfl hL rfl (by show i + 1 < L; omega) (v := xs (i + 1)) rfl ?_
  refine wi_aload_n rfl rfl ?_
  refine wi_iload_n rfl rfl ?_
  refine wi_iconst (x := 2) rfl rfl ?_
  refine wn_iadd (z := (Int32.ofNat (i + 2))) rfl (add_n (a := i) (b := 2) rfl (rfl : (2 : Int32) = Int32.ofNat 2)) ?_
  refine wn_ialoadX (q := i + 2) rfl hL rfl (by show i + 2 < L; omega) (v := xs (i + 2)) rfl ?_
  refine wi_aload_n rfl rfl ?_
  refine wi_iload_n rfl rfl ?_
  refine wi_iconst (x := 3) rfl rfl ?_
  refine wn_iadd (z := (Int32.ofNat (i + 3))) rfl (add_n (a := i) (b := 3) rfl (rfl : (3 : Int32) = Int32.ofNat 3)) ?_
  refine wn_ialoadX (q := i + 3) rfl hL rfl (by show i + 3 < L; omega) (v := xs (i + 3)) rfl ?_
  refine wi_aload_n rfl rfl ?_
  refine wi_iload_n rfl rfl ?_
  refine wi_iconst (x := 4) rfl rfl ?_
  refine wn_iadd (z := (Int32.ofNat (i + 4))) rfl (add_n (a := i) (b := 4) rfl (rfl : (4 : Int32) = Int32.ofNat 4)) ?_
  refine wn_ialoadX (q := i + 4) rfl hL rfl (by show i + 4 < L; omega) (v := xs (i + 4)) rfl ?_
  refine wi_aload_n rfl rfl ?_
  refine wi_iload_n rfl rfl ?_
  refine wi_iconst (x := 5) rfl rfl ?_
  refine wn_iadd (z := (Int32.ofNat (i + 5))) rfl (add_n (a := i) (b := 5) rfl (rfl : (5 : Int32) = Int32.ofNat 5)) ?_
  refine wn_ialoadX (q := i + 5) rfl hL rfl (by show i + 5 < L; omega) (v := xs (i + 5)) rfl ?_
  refine wi_aload_n rfl rfl ?_
  refine wi_iload_n rfl rfl ?_
  refine wi_bipush (x := 6) rfl rfl ?_
  refine wn_iadd (z := (Int32.ofNat (i + 6))) rfl (add_n (a := i) (b := 6) rfl (rfl : (6 : Int32) = Int32.ofNat 6)) ?_
  refine wn_ialoadX (q := i + 6) rfl hL rfl (by show i + 6 < L; omega) (v := xs (i + 6)) rfl ?_
  refine wi_aload_n rfl rfl ?_
  refine wi_iload_n rfl rfl ?_
  refine wi_bipush (x := 7) rfl rfl ?_
  refine wn_iadd (z := (Int32.ofNat (i + 7))) rfl (add_n (a := i) (b := 7) rfl (rfl : (7 : Int32) = Int32.ofNat 7)) ?_
  refine wn_ialoadX (q := i + 7) rfl hL rfl (by show i + 7 < L; omega) (v := xs (i + 7)) rfl ?_
  refine wi_callV7 rfl (by decide) (by decide) rfl (kd_0 ..) rfl rfl rfl (a_set mi ml b hR _ (fun v mi2 ml2 b2 hm => ?_))
  refine wi_aload_n rfl rfl ?_
  refine wi_aload_n rfl rfl ?_
  refine wi_iload_n rfl rfl ?_
  refine wi_iconst (x := 1) rfl rfl ?_
  refine wn_iadd (z := (Int32.ofNat (i + 1))) rfl (add_n (a := i) (b := 1) rfl (rfl : (1 : Int32) = Int32.ofNat 1)) ?_
  refine wn_ialoadX (q := i + 1) rfl hL rfl (by show i + 1 < L; omega) (v := xs (i + 1)) rfl ?_
  refine wi_aload_n rfl rfl ?_
  refine wi_iload_n rfl rfl ?_
  refine wi_iconst (x := 2) rfl rfl ?_
  refine wn_iadd (z := (Int32.ofNat (i + 2))) rfl (add_n (a := i) (b := 2) rfl (rfl : (2 : Int32) = Int32.ofNat 2)) ?_
  refine wn_ialoadX (q := i + 2) rfl hL rfl (by show i + 2 < L; omega) (v := xs (i + 2)) rfl ?_
  refine wi_aload_n rfl rfl ?_
  refine wi_iload_n rfl rfl ?_
  refine wi_iconst (x := 3) rfl rfl ?_
  refine wn_iadd (z := (Int32.ofNat (i + 3))) rfl (add_n (a := i) (b := 3) rfl (rfl : (3 : Int32) = Int32.ofNat 3)) ?_
  refine wn_ialoadX (q := i + 3) rfl hL rfl (by show i + 3 < L; omega) (v := xs (i + 3)) rfl ?_
  refine wi_aload_n rfl rfl ?_
  refine wi_iload_n rfl rfl ?_
  refine wi_iconst (x := 4) rfl rfl ?_
  refine wn_iadd (z := (Int32.ofNat (i + 4))) rfl (add_n (a := i) (b := 4) rfl (rfl : (4 : Int32) = Int32.ofNat 4)) ?_
  refine wn_ialoadX (q := i + 4) rfl hL rfl (by show i + 4 < L; omega) (v := xs (i + 4)) rfl ?_
  refine wi_aload_n rfl rfl ?_
  refine wi_iload_n rfl rfl ?_
  refine wi_iconst (x := 5) rfl rfl ?_
  refine wn_iadd (z := (Int32.ofNat (i + 5))) rfl (add_n (a := i) (b := 5) rfl (rfl : (5 : Int32) = Int32.ofNat 5)) ?_
  refine wn_ialoadX (q := i + 5) rfl hL rfl (by show i + 5 < L; omega) (v := xs (i + 5)) rfl ?_
  refine wi_aload_n rfl rfl ?_
  refine wi_iload_n rfl rfl ?_
  refine wi_bipush (x := 6) rfl rfl ?_
  refine wn_iadd (z := (Int32.ofNat (i + 6))) rfl (add_n (a := i) (b := 6) rfl (rfl : (6 : Int32) = Int32.ofNat 6)) ?_
  refine wn_ialoadX (q := i + 6) rfl hL rfl (by show i + 6 < L; omega) (v := xs (i + 6)) rfl ?_
  refine wi_aload_n rfl rfl ?_
  refine wi_iload_n rfl rfl ?_
  refine wi_bipush (x := 7) rfl rfl ?_
  refine wn_iadd (z := (Int32.ofNat (i + 7))) rfl (add_n (a := i) (b := 7) rfl (rfl : (7 : Int32) = Int32.ofNat 7)) ?_
  refine wn_ialoadX (q := i + 7) rfl hL rfl (by show i + 7 < L; omega) (v := xs (i + 7)) rfl ?_
  refine wi_callV7 rfl (by decide) (by decide) rfl (kd_134 ..) rfl rfl rfl (hm _ (fun mi3 ml3 b3 hR3 => ?_))
  refine wi_icmp_eq rfl (fun _ => ?_) (fun h9 => absurd rfl h9)
  refine wi_iinc (z := (Int32.ofNat (i + 8))) rfl rfl rfl (add_n (a := i) (b := 8) rfl rfl) rfl ?_
  refine wi_goto rfl ?_
  exact hQ mi3 ml3 b3 hR3
set_option maxRecDepth 100000 in
theorem lw_told {L : Nat} {xs : Nat → Int32} {Q : Option Value → am_M → Prop} {mi : Nat → Nat → Int32} {ml : Nat → Nat → Int64} {b : Bool} {i : Nat} (hL : L ≤ 4096) (hi : i + 8 ≤ L) (hR : R mi ml b) (hQ : ∀ mi3 ml3 b3, R mi3 ml3 b3 → am_wp (L, xs) 30 204 10 [.ref 1000050, .ref 0, .ref 134, .int (Int32.ofNat (i + 8))] [] (am_shT, mrL b3, mi3, ml3) Q) : am_wp (L, xs) 30 204 21 [.ref 1000050, .ref 0, .ref 134, .int (Int32.ofNat (i))] [.int 3] (am_shT, mrL b, mi, ml) Q := by
  refine wi_tsw (t := 113) rfl rfl (by decide) rfl ?_
  refine wi_aload_n rfl rfl ?_
  refine wi_aload_n rfl rfl ?_
  refine wi_iload_n rfl rfl ?_
  refine wi_iconst (x := 1) rfl rfl ?_
  refine wn_iadd (z := (Int32.ofNat (i + 1))) rfl (add_n (a := i) (b := 1) rfl (rfl : (1 : Int32) = Int32.ofNat 1)) ?_
  refine wn_ialoadX (q := i + 1) rfl hL rfl (by show i + 1 < L; omega) (v := xs (i + 1)) rfl ?_
  refine wi_aload_n rfl rfl ?_
  refine wi_iload_n rfl rfl ?_
  refine wi_iconst (x := 2) rfl rfl ?_
  refine wn_iadd (z := (Int32.ofNat (i + 2))) rfl (add_n (a := i) (b := 2) rfl (rfl : (2 : Int32) = Int32.ofNat 2)) ?_
  refine wn_ialoadX (q := i + 2) rfl hL rfl (by show i + 2 < L; omega) (v := xs (i + 2)) rfl ?_
  refine wi_callV2 rfl (by decide) (by decide) rfl (kd_0 ..) rfl rfl rfl (a_told mi ml b hR _ (fun v mi2 ml2 b2 hm => ?_))
  refine wi_aload_n rfl rfl ?_
  refine wi_aload_n rfl rfl ?_
  refine wi_iload_n rfl rfl ?_
  refine wi_iconst (x := 1) rfl rfl ?_
  refine wn_iadd (z := (Int32.ofNat (i + 1))) rfl (add_n (a := i) (b := 1) rfl (rfl : (1 : Int32) = Int32.ofNat 1)) ?_
  refine wn_ialoadX (q := i + 1) rfl hL rfl (by show i + 1 < L; omega) (v := xs (i + 1)) rfl ?_
  refine wi_aload_n rfl rfl ?_
  refine wi_iload_n rfl rfl ?_
  refine wi_iconst (x := 2) rfl rfl ?_
  refine wn_iadd (z := (Int32.ofNat (i + 2))) rfl (add_n (a := i) (b := 2) rfl (rfl : (2 : Int32) = Int32.ofNat 2)) ?_
  refine wn_ialoadX (q := i + 2) rfl hL rfl (by show i + 2 < L; omega) (v := xs (i + 2)) rfl ?_
  refine wi_callV2 rfl (by decide) (by decide) rfl (kd_134 ..) rfl rfl rfl (hm _ (fun mi3 ml3 b3 hR3 => ?_))
  refine wi_icmp_eq rfl (fun _ => ?_) (fun h9 => absurd rfl h9)
  refine wi_iinc (z := (Int32.ofNat (i + 8))) rfl rfl rfl (add_n (a := i) (b := 8) rfl rfl) rfl ?_
  refine wi_goto rfl ?_
  exact hQ mi3 ml3 b3 hR3
set_option maxRecDepth 100000 in
theorem lw_weather {L : Nat} {xs : Nat → Int32} {Q : Option Value → am_M → Prop} {mi : Nat → Nat → Int32} {ml : Nat → Nat → Int64} {b : Bool} {i : Nat} (hL : L ≤ 4096) (hi : i + 8 ≤ L) (hR : R mi ml b) (hQ : ∀ mi3 ml3 b3, R mi3 ml3 b3 → am_wp (L, xs) 30 204 10 [.ref 1000050, .ref 0, .ref 134, .int (Int32.ofNat (i + 8))] [] (am_shT, mrL b3, mi3, ml3) Q) : am_wp (L, xs) 30 204 21 [.ref 1000050, .ref 0, .ref 134, .int (Int32.ofNat (i))] [.int 4] (am_shT, mrL b, mi, ml) Q := by
  refine wi_tsw (t := 140) rfl rfl (by decide) rfl ?_
  refine wi_aload_n rfl rfl ?_
  refine wi_aload_n rfl rfl ?_
  refine wi_iload_n rfl rfl ?_
  refine wi_iconst (x := 1) rfl rfl ?_
  refine wn_iadd (z := (Int32.ofNat (i + 1))) rfl (add_n (a := i) (b := 1) rfl (rfl : (1 : Int32) = Int32.ofNat 1)) ?_
  refine wn_ialoadX (q := i + 1) rfl hL rfl (by show i + 1 < L; omega) (v := xs (i + 1)) rfl ?_
  refine wi_aload_n rfl rfl ?_
  refine wi_iload_n rfl rfl ?_
  refine wi_iconst (x := 2) rfl rfl ?_
  refine wn_iadd (z := (Int32.ofNat (i + 2))) rfl (add_n (a := i) (b := 2) rfl (rfl : (2 : Int32) = Int32.ofNat 2)) ?_
  refine wn_ialoadX (q := i + 2) rfl hL rfl (by show i + 2 < L; omega) (v := xs (i + 2)) rfl ?_
  refine wi_aload_n rfl rfl ?_
  refine wi_iload_n rfl rfl ?_
  refine wi_iconst (x := 3) rfl rfl ?_
  refine wn_iadd (z := (Int32.ofNat (i + 3))) rfl (add_n (a := i) (b := 3) rfl (rfl : (3 : Int32) = Int32.ofNat 3)) ?_
  refine wn_ialoadX (q := i + 3) rfl hL rfl (by show i + 3 < L; omega) (v := xs (i + 3)) rfl ?_
  refine wi_aload_n rfl rfl ?_
  refine wi_iload_n rfl rfl ?_
  refine wi_iconst (x := 4) rfl rfl ?_
  refine wn_iadd (z := (Int32.ofNat (i + 4))) rfl (add_n (a := i) (b := 4) rfl (rfl : (4 : Int32) = Int32.ofNat 4)) ?_
  refine wn_ialoadX (q := i + 4) rfl hL rfl (by show i + 4 < L; omega) (v := xs (i + 4)) rfl ?_
  refine wi_if_eq rfl (fun g1 => ?_) (fun g1 => ?_)
  · skip
    refine wi_iconst (x := 0) rfl rfl ?_
    refine wi_callV4 rfl (by decide) (by decide) rfl (kd_0 ..) rfl rfl rfl (a_weather mi ml b hR _ (fun v mi2 ml2 b2 hm => ?_))
    refine wi_aload_n rfl rfl ?_
    refine wi_aload_n rfl rfl ?_
    refine wi_iload_n rfl rfl ?_
    refine wi_iconst (x := 1) rfl rfl ?_
    refine wn_iadd (z := (Int32.ofNat (i + 1))) rfl (add_n (a := i) (b := 1) rfl (rfl : (1 : Int32) = Int32.ofNat 1)) ?_
    refine wn_ialoadX (q := i + 1) rfl hL rfl (by show i + 1 < L; omega) (v := xs (i + 1)) rfl ?_
    refine wi_aload_n rfl rfl ?_
    refine wi_iload_n rfl rfl ?_
    refine wi_iconst (x := 2) rfl rfl ?_
    refine wn_iadd (z := (Int32.ofNat (i + 2))) rfl (add_n (a := i) (b := 2) rfl (rfl : (2 : Int32) = Int32.ofNat 2)) ?_
    refine wn_ialoadX (q := i + 2) rfl hL rfl (by show i + 2 < L; omega) (v := xs (i + 2)) rfl ?_
    refine wi_aload_n rfl rfl ?_
    refine wi_iload_n rfl rfl ?_
    refine wi_iconst (x := 3) rfl rfl ?_
    refine wn_iadd (z := (Int32.ofNat (i + 3))) rfl (add_n (a := i) (b := 3) rfl (rfl : (3 : Int32) = Int32.ofNat 3)) ?_
    refine wn_ialoadX (q := i + 3) rfl hL rfl (by show i + 3 < L; omega) (v := xs (i + 3)) rfl ?_
    refine wi_aload_n rfl rfl ?_
    refine wi_iload_n rfl rfl ?_
    refine wi_iconst (x := 4) rfl rfl ?_
    refine wn_iadd (z := (Int32.ofNat (i + 4))) rfl (add_n (a := i) (b := 4) rfl (rfl : (4 : Int32) = Int32.ofNat 4)) ?_
    refine wn_ialoadX (q := i + 4) rfl hL rfl (by show i + 4 < L; omega) (v := xs (i + 4)) rfl ?_
    refine wi_if_eq rfl (fun _ => ?_) (fun h9 => absurd g1 h9)
    refine wi_iconst (x := 0) rfl rfl ?_
    refine wi_callV4 rfl (by decide) (by decide) rfl (kd_134 ..) rfl rfl rfl (hm _ (fun mi3 ml3 b3 hR3 => ?_))
    refine wi_icmp_eq rfl (fun _ => ?_) (fun h9 => absurd rfl h9)
    refine wi_iinc (z := (Int32.ofNat (i + 8))) rfl rfl rfl (add_n (a := i) (b := 8) rfl rfl) rfl ?_
    refine wi_goto rfl ?_
    exact hQ mi3 ml3 b3 hR3
  · skip
    refine wi_iconst (x := 1) rfl rfl ?_
    refine wi_goto rfl ?_
    refine wi_callV4 rfl (by decide) (by decide) rfl (kd_0 ..) rfl rfl rfl (a_weather mi ml b hR _ (fun v mi2 ml2 b2 hm => ?_))
    refine wi_aload_n rfl rfl ?_
    refine wi_aload_n rfl rfl ?_
    refine wi_iload_n rfl rfl ?_
    refine wi_iconst (x := 1) rfl rfl ?_
    refine wn_iadd (z := (Int32.ofNat (i + 1))) rfl (add_n (a := i) (b := 1) rfl (rfl : (1 : Int32) = Int32.ofNat 1)) ?_
    refine wn_ialoadX (q := i + 1) rfl hL rfl (by show i + 1 < L; omega) (v := xs (i + 1)) rfl ?_
    refine wi_aload_n rfl rfl ?_
    refine wi_iload_n rfl rfl ?_
    refine wi_iconst (x := 2) rfl rfl ?_
    refine wn_iadd (z := (Int32.ofNat (i + 2))) rfl (add_n (a := i) (b := 2) rfl (rfl : (2 : Int32) = Int32.ofNat 2)) ?_
    refine wn_ialoadX (q := i + 2) rfl hL rfl (by show i + 2 < L; omega) (v := xs (i + 2)) rfl ?_
    refine wi_aload_n rfl rfl ?_
    refine wi_iload_n rfl rfl ?_
    refine wi_iconst (x := 3) rfl rfl ?_
    refine wn_iadd (z := (Int32.ofNat (i + 3))) rfl (add_n (a := i) (b := 3) rfl (rfl : (3 : Int32) = Int32.ofNat 3)) ?_
    refine wn_ialoadX (q := i + 3) rfl hL rfl (by show i + 3 < L; omega) (v := xs (i + 3)) rfl ?_
    refine wi_aload_n rfl rfl ?_
    refine wi_iload_n rfl rfl ?_
    refine wi_iconst (x := 4) rfl rfl ?_
    refine wn_iadd (z := (Int32.ofNat (i + 4))) rfl (add_n (a := i) (b := 4) rfl (rfl : (4 : Int32) = Int32.ofNat 4)) ?_
    refine wn_ialoadX (q := i + 4) rfl hL rfl (by show i + 4 < L; omega) (v := xs (i + 4)) rfl ?_
    refine wi_if_eq rfl (fun h9 => absurd h9 g1) (fun _ => ?_)
    refine wi_iconst (x := 1) rfl rfl ?_
    refine wi_goto rfl ?_
    refine wi_callV4 rfl (by decide) (by decide) rfl (kd_134 ..) rfl rfl rfl (hm _ (fun mi3 ml3 b3 hR3 => ?_))
    refine wi_icmp_eq rfl (fun _ => ?_) (fun h9 => absurd rfl h9)
    refine wi_iinc (z := (Int32.ofNat (i + 8))) rfl rfl rfl (add_n (a := i) (b := 8) rfl rfl) rfl ?_
    refine wi_goto rfl ?_
    exact hQ mi3 ml3 b3 hR3
set_option maxRecDepth 100000 in
theorem lw_work {L : Nat} {xs : Nat → Int32} {Q : Option Value → am_M → Prop} {mi : Nat → Nat → Int32} {ml : Nat → Nat → Int64} {b : Bool} {i : Nat} (hL : L ≤ 4096) (hi : i + 8 ≤ L) (hR : R mi ml b) (hQ : ∀ mi3 ml3 b3, R mi3 ml3 b3 → am_wp (L, xs) 30 204 10 [.ref 1000050, .ref 0, .ref 134, .int (Int32.ofNat (i + 8))] [] (am_shT, mrL b3, mi3, ml3) Q) : am_wp (L, xs) 30 204 21 [.ref 1000050, .ref 0, .ref 134, .int (Int32.ofNat (i))] [.int 5] (am_shT, mrL b, mi, ml) Q := by
  refine wi_tsw (t := 195) rfl rfl (by decide) rfl ?_
  refine wi_aload_n rfl rfl ?_
  refine wi_aload_n rfl rfl ?_
  refine wi_iload_n rfl rfl ?_
  refine wi_iconst (x := 1) rfl rfl ?_
  refine wn_iadd (z := (Int32.ofNat (i + 1))) rfl (add_n (a := i) (b := 1) rfl (rfl : (1 : Int32) = Int32.ofNat 1)) ?_
  refine wn_ialoadX (q := i + 1) rfl hL rfl (by show i + 1 < L; omega) (v := xs (i + 1)) rfl ?_
  refine wi_aload_n rfl rfl ?_
  refine wi_iload_n rfl rfl ?_
  refine wi_iconst (x := 2) rfl rfl ?_
  refine wn_iadd (z := (Int32.ofNat (i + 2))) rfl (add_n (a := i) (b := 2) rfl (rfl : (2 : Int32) = Int32.ofNat 2)) ?_
  refine wn_ialoadX (q := i + 2) rfl hL rfl (by show i + 2 < L; omega) (v := xs (i + 2)) rfl ?_
  refine wi_callV2 rfl (by decide) (by decide) rfl (kd_0 ..) rfl rfl rfl (a_work mi ml b hR _ (fun v mi2 ml2 b2 hm => ?_))
  refine wi_aload_n rfl rfl ?_
  refine wi_aload_n rfl rfl ?_
  refine wi_iload_n rfl rfl ?_
  refine wi_iconst (x := 1) rfl rfl ?_
  refine wn_iadd (z := (Int32.ofNat (i + 1))) rfl (add_n (a := i) (b := 1) rfl (rfl : (1 : Int32) = Int32.ofNat 1)) ?_
  refine wn_ialoadX (q := i + 1) rfl hL rfl (by show i + 1 < L; omega) (v := xs (i + 1)) rfl ?_
  refine wi_aload_n rfl rfl ?_
  refine wi_iload_n rfl rfl ?_
  refine wi_iconst (x := 2) rfl rfl ?_
  refine wn_iadd (z := (Int32.ofNat (i + 2))) rfl (add_n (a := i) (b := 2) rfl (rfl : (2 : Int32) = Int32.ofNat 2)) ?_
  refine wn_ialoadX (q := i + 2) rfl hL rfl (by show i + 2 < L; omega) (v := xs (i + 2)) rfl ?_
  refine wi_callV2 rfl (by decide) (by decide) rfl (kd_134 ..) rfl rfl rfl (hm _ (fun mi3 ml3 b3 hR3 => ?_))
  refine wi_icmp_eq rfl (fun _ => ?_) (fun h9 => absurd rfl h9)
  refine wi_iinc (z := (Int32.ofNat (i + 8))) rfl rfl rfl (add_n (a := i) (b := 8) rfl rfl) rfl ?_
  refine wi_goto rfl ?_
  exact hQ mi3 ml3 b3 hR3
set_option maxRecDepth 100000 in
theorem lw_play {L : Nat} {xs : Nat → Int32} {Q : Option Value → am_M → Prop} {mi : Nat → Nat → Int32} {ml : Nat → Nat → Int64} {b : Bool} {i : Nat} (hL : L ≤ 4096) (hi : i + 8 ≤ L) (hR : R mi ml b) (hQ : ∀ mi3 ml3 b3, R mi3 ml3 b3 → am_wp (L, xs) 30 204 10 [.ref 1000050, .ref 0, .ref 134, .int (Int32.ofNat (i + 8))] [] (am_shT, mrL b3, mi3, ml3) Q) : am_wp (L, xs) 30 204 21 [.ref 1000050, .ref 0, .ref 134, .int (Int32.ofNat (i))] [.int 6] (am_shT, mrL b, mi, ml) Q := by
  refine wi_tsw (t := 222) rfl rfl (by decide) rfl ?_
  refine wi_aload_n rfl rfl ?_
  refine wi_aload_n rfl rfl ?_
  refine wi_iload_n rfl rfl ?_
  refine wi_iconst (x := 1) rfl rfl ?_
  refine wn_iadd (z := (Int32.ofNat (i + 1))) rfl (add_n (a := i) (b := 1) rfl (rfl : (1 : Int32) = Int32.ofNat 1)) ?_
  refine wn_ialoadX (q := i + 1) rfl hL rfl (by show i + 1 < L; omega) (v := xs (i + 1)) rfl ?_
  refine wi_aload_n rfl rfl ?_
  refine wi_iload_n rfl rfl ?_
  refine wi_iconst (x := 2) rfl rfl ?_
  refine wn_iadd (z := (Int32.ofNat (i + 2))) rfl (add_n (a := i) (b := 2) rfl (rfl : (2 : Int32) = Int32.ofNat 2)) ?_
  refine wn_ialoadX (q := i + 2) rfl hL rfl (by show i + 2 < L; omega) (v := xs (i + 2)) rfl ?_
  refine wi_callV2 rfl (by decide) (by decide) rfl (kd_0 ..) rfl rfl rfl (a_play mi ml b hR _ (fun v mi2 ml2 b2 hm => ?_))
  refine wi_aload_n rfl rfl ?_
  refine wi_aload_n rfl rfl ?_
  refine wi_iload_n rfl rfl ?_
  refine wi_iconst (x := 1) rfl rfl ?_
  refine wn_iadd (z := (Int32.ofNat (i + 1))) rfl (add_n (a := i) (b := 1) rfl (rfl : (1 : Int32) = Int32.ofNat 1)) ?_
  refine wn_ialoadX (q := i + 1) rfl hL rfl (by show i + 1 < L; omega) (v := xs (i + 1)) rfl ?_
  refine wi_aload_n rfl rfl ?_
  refine wi_iload_n rfl rfl ?_
  refine wi_iconst (x := 2) rfl rfl ?_
  refine wn_iadd (z := (Int32.ofNat (i + 2))) rfl (add_n (a := i) (b := 2) rfl (rfl : (2 : Int32) = Int32.ofNat 2)) ?_
  refine wn_ialoadX (q := i + 2) rfl hL rfl (by show i + 2 < L; omega) (v := xs (i + 2)) rfl ?_
  refine wi_callV2 rfl (by decide) (by decide) rfl (kd_134 ..) rfl rfl rfl (hm _ (fun mi3 ml3 b3 hR3 => ?_))
  refine wi_icmp_eq rfl (fun _ => ?_) (fun h9 => absurd rfl h9)
  refine wi_iinc (z := (Int32.ofNat (i + 8))) rfl rfl rfl (add_n (a := i) (b := 8) rfl rfl) rfl ?_
  refine wi_goto rfl ?_
  exact hQ mi3 ml3 b3 hR3
set_option maxRecDepth 100000 in
theorem lw_step {L : Nat} {xs : Nat → Int32} {Q : Option Value → am_M → Prop} {mi : Nat → Nat → Int32} {ml : Nat → Nat → Int64} {b : Bool} {i : Nat} (hL : L ≤ 4096) (hi : i + 8 ≤ L) (hR : R mi ml b) (hQ : ∀ mi3 ml3 b3, R mi3 ml3 b3 → am_wp (L, xs) 30 204 10 [.ref 1000050, .ref 0, .ref 134, .int (Int32.ofNat (i + 8))] [] (am_shT, mrL b3, mi3, ml3) Q) : am_wp (L, xs) 30 204 21 [.ref 1000050, .ref 0, .ref 134, .int (Int32.ofNat (i))] [.int 7] (am_shT, mrL b, mi, ml) Q := by
  refine wi_tsw (t := 249) rfl rfl (by decide) rfl ?_
  refine wi_aload_n rfl rfl ?_
  refine wi_callV0 rfl (by decide) (by decide) rfl (kd_0 ..) rfl rfl rfl (a_step mi ml b hR _ (fun v mi2 ml2 b2 hm => ?_))
  refine wi_aload_n rfl rfl ?_
  refine wi_callV0 rfl (by decide) (by decide) rfl (kd_134 ..) rfl rfl rfl (hm _ (fun mi3 ml3 b3 hR3 => ?_))
  refine wi_icmp_eq rfl (fun _ => ?_) (fun h9 => absurd rfl h9)
  refine wi_iinc (z := (Int32.ofNat (i + 8))) rfl rfl rfl (add_n (a := i) (b := 8) rfl rfl) rfl ?_
  refine wi_goto rfl ?_
  exact hQ mi3 ml3 b3 hR3
set_option maxRecDepth 100000 in
theorem lw_day {L : Nat} {xs : Nat → Int32} {Q : Option Value → am_M → Prop} {mi : Nat → Nat → Int32} {ml : Nat → Nat → Int64} {b : Bool} {i : Nat} (hL : L ≤ 4096) (hi : i + 8 ≤ L) (hR : R mi ml b) (hQ : ∀ mi3 ml3 b3, R mi3 ml3 b3 → am_wp (L, xs) 30 204 10 [.ref 1000050, .ref 0, .ref 134, .int (Int32.ofNat (i + 8))] [] (am_shT, mrL b3, mi3, ml3) Q) : am_wp (L, xs) 30 204 21 [.ref 1000050, .ref 0, .ref 134, .int (Int32.ofNat (i))] [.int 8] (am_shT, mrL b, mi, ml) Q := by
  refine wi_tsw (t := 256) rfl rfl (by decide) rfl ?_
  refine wi_aload_n rfl rfl ?_
  refine wi_callV0 rfl (by decide) (by decide) rfl (kd_0 ..) rfl rfl rfl (a_day mi ml b hR _ (fun v mi2 ml2 b2 hm => ?_))
  refine wi_aload_n rfl rfl ?_
  refine wi_callV0 rfl (by decide) (by decide) rfl (kd_134 ..) rfl rfl rfl (hm _ (fun mi3 ml3 b3 hR3 => ?_))
  refine wi_icmp_eq rfl (fun _ => ?_) (fun h9 => absurd rfl h9)
  refine wi_iinc (z := (Int32.ofNat (i + 8))) rfl rfl rfl (add_n (a := i) (b := 8) rfl rfl) rfl ?_
  refine wi_goto rfl ?_
  exact hQ mi3 ml3 b3 hR3
set_option maxRecDepth 100000 in
theorem lw_measure {L : Nat} {xs : Nat → Int32} {Q : Option Value → am_M → Prop} {mi : Nat → Nat → Int32} {ml : Nat → Nat → Int64} {b : Bool} {i : Nat} (hL : L ≤ 4096) (hi : i + 8 ≤ L) (hR : R mi ml b) (hQ : ∀ mi3 ml3 b3, R mi3 ml3 b3 → am_wp (L, xs) 30 204 10 [.ref 1000050, .ref 0, .ref 134, .int (Int32.ofNat (i + 8))] [] (am_shT, mrL b3, mi3, ml3) Q) : am_wp (L, xs) 30 204 21 [.ref 1000050, .ref 0, .ref 134, .int (Int32.ofNat (i))] [.int 9] (am_shT, mrL b, mi, ml) Q := by
  refine wi_tsw (t := 263) rfl rfl (by decide) rfl ?_
  refine wi_aload_n rfl rfl ?_
  refine wi_aload_n rfl rfl ?_
  refine wi_iload_n rfl rfl ?_
  refine wi_iconst (x := 1) rfl rfl ?_
  refine wn_iadd (z := (Int32.ofNat (i + 1))) rfl (add_n (a := i) (b := 1) rfl (rfl : (1 : Int32) = Int32.ofNat 1)) ?_
  refine wn_ialoadX (q := i + 1) rfl hL rfl (by show i + 1 < L; omega) (v := xs (i + 1)) rfl ?_
  refine wi_aload_n rfl rfl ?_
  refine wi_iload_n rfl rfl ?_
  refine wi_iconst (x := 2) rfl rfl ?_
  refine wn_iadd (z := (Int32.ofNat (i + 2))) rfl (add_n (a := i) (b := 2) rfl (rfl : (2 : Int32) = Int32.ofNat 2)) ?_
  refine wn_ialoadX (q := i + 2) rfl hL rfl (by show i + 2 < L; omega) (v := xs (i + 2)) rfl ?_
  refine wi_aload_n rfl rfl ?_
  refine wi_iload_n rfl rfl ?_
  refine wi_iconst (x := 3) rfl rfl ?_
  refine wn_iadd (z := (Int32.ofNat (i + 3))) rfl (add_n (a := i) (b := 3) rfl (rfl : (3 : Int32) = Int32.ofNat 3)) ?_
  refine wn_ialoadX (q := i + 3) rfl hL rfl (by show i + 3 < L; omega) (v := xs (i + 3)) rfl ?_
  refine wi_callV3 rfl (by decide) (by decide) rfl (kd_0 ..) rfl rfl rfl (a_measure mi ml b hR _ (fun v mi2 ml2 b2 hm => ?_))
  refine wi_aload_n rfl rfl ?_
  refine wi_aload_n rfl rfl ?_
  refine wi_iload_n rfl rfl ?_
  refine wi_iconst (x := 1) rfl rfl ?_
  refine wn_iadd (z := (Int32.ofNat (i + 1))) rfl (add_n (a := i) (b := 1) rfl (rfl : (1 : Int32) = Int32.ofNat 1)) ?_
  refine wn_ialoadX (q := i + 1) rfl hL rfl (by show i + 1 < L; omega) (v := xs (i + 1)) rfl ?_
  refine wi_aload_n rfl rfl ?_
  refine wi_iload_n rfl rfl ?_
  refine wi_iconst (x := 2) rfl rfl ?_
  refine wn_iadd (z := (Int32.ofNat (i + 2))) rfl (add_n (a := i) (b := 2) rfl (rfl : (2 : Int32) = Int32.ofNat 2)) ?_
  refine wn_ialoadX (q := i + 2) rfl hL rfl (by show i + 2 < L; omega) (v := xs (i + 2)) rfl ?_
  refine wi_aload_n rfl rfl ?_
  refine wi_iload_n rfl rfl ?_
  refine wi_iconst (x := 3) rfl rfl ?_
  refine wn_iadd (z := (Int32.ofNat (i + 3))) rfl (add_n (a := i) (b := 3) rfl (rfl : (3 : Int32) = Int32.ofNat 3)) ?_
  refine wn_ialoadX (q := i + 3) rfl hL rfl (by show i + 3 < L; omega) (v := xs (i + 3)) rfl ?_
  refine wi_callV3 rfl (by decide) (by decide) rfl (kd_134 ..) rfl rfl rfl (hm _ (fun mi3 ml3 b3 hR3 => ?_))
  refine wi_icmp_eq rfl (fun _ => ?_) (fun h9 => absurd rfl h9)
  refine wi_iinc (z := (Int32.ofNat (i + 8))) rfl rfl rfl (add_n (a := i) (b := 8) rfl rfl) rfl ?_
  refine wi_goto rfl ?_
  exact hQ mi3 ml3 b3 hR3
set_option maxRecDepth 100000 in
theorem lw_reads {L : Nat} {xs : Nat → Int32} {Q : Option Value → am_M → Prop} {mi : Nat → Nat → Int32} {ml : Nat → Nat → Int64} {b : Bool} {i : Nat} (hL : L ≤ 4096) (hi : i + 8 ≤ L) (hR : R mi ml b) (hQ : ∀ mi3 ml3 b3, R mi3 ml3 b3 → am_wp (L, xs) 30 204 10 [.ref 1000050, .ref 0, .ref 134, .int (Int32.ofNat (i + 8))] [] (am_shT, mrL b3, mi3, ml3) Q) : am_wp (L, xs) 30 204 21 [.ref 1000050, .ref 0, .ref 134, .int (Int32.ofNat (i))] [.int 10] (am_shT, mrL b, mi, ml) Q := by
  refine wi_tsw (t := 300) rfl rfl (by decide) rfl ?_
  refine wi_aload_n rfl rfl ?_
  refine wi_aload_n rfl rfl ?_
  refine wi_iload_n rfl rfl ?_
  refine wi_iconst (x := 1) rfl rfl ?_
  refine wn_iadd (z := (Int32.ofNat (i + 1))) rfl (add_n (a := i) (b := 1) rfl (rfl : (1 : Int32) = Int32.ofNat 1)) ?_
  refine wn_ialoadX (q := i + 1) rfl hL rfl (by show i + 1 < L; omega) (v := xs (i + 1)) rfl ?_
  refine wi_aload_n rfl rfl ?_
  refine wi_iload_n rfl rfl ?_
  refine wi_iconst (x := 2) rfl rfl ?_
  refine wn_iadd (z := (Int32.ofNat (i + 2))) rfl (add_n (a := i) (b := 2) rfl (rfl : (2 : Int32) = Int32.ofNat 2)) ?_
  refine wn_ialoadX (q := i + 2) rfl hL rfl (by show i + 2 < L; omega) (v := xs (i + 2)) rfl ?_
  refine wi_callV2 rfl (by decide) (by decide) rfl (kd_0 ..) rfl rfl rfl (a_reads mi ml b hR _ (fun v mi2 ml2 b2 hm => ?_))
  refine wi_aload_n rfl rfl ?_
  refine wi_aload_n rfl rfl ?_
  refine wi_iload_n rfl rfl ?_
  refine wi_iconst (x := 1) rfl rfl ?_
  refine wn_iadd (z := (Int32.ofNat (i + 1))) rfl (add_n (a := i) (b := 1) rfl (rfl : (1 : Int32) = Int32.ofNat 1)) ?_
  refine wn_ialoadX (q := i + 1) rfl hL rfl (by show i + 1 < L; omega) (v := xs (i + 1)) rfl ?_
  refine wi_aload_n rfl rfl ?_
  refine wi_iload_n rfl rfl ?_
  refine wi_iconst (x := 2) rfl rfl ?_
  refine wn_iadd (z := (Int32.ofNat (i + 2))) rfl (add_n (a := i) (b := 2) rfl (rfl : (2 : Int32) = Int32.ofNat 2)) ?_
  refine wn_ialoadX (q := i + 2) rfl hL rfl (by show i + 2 < L; omega) (v := xs (i + 2)) rfl ?_
  refine wi_callV2 rfl (by decide) (by decide) rfl (kd_134 ..) rfl rfl rfl (hm _ (fun mi3 ml3 b3 hR3 => ?_))
  refine wi_icmp_eq rfl (fun _ => ?_) (fun h9 => absurd rfl h9)
  refine wi_iinc (z := (Int32.ofNat (i + 8))) rfl rfl rfl (add_n (a := i) (b := 8) rfl rfl) rfl ?_
  refine wi_goto rfl ?_
  exact hQ mi3 ml3 b3 hR3
set_option maxRecDepth 100000 in
theorem lw_plan {L : Nat} {xs : Nat → Int32} {Q : Option Value → am_M → Prop} {mi : Nat → Nat → Int32} {ml : Nat → Nat → Int64} {b : Bool} {i : Nat} (hL : L ≤ 4096) (hi : i + 8 ≤ L) (hR : R mi ml b) (hQ : ∀ mi3 ml3 b3, R mi3 ml3 b3 → am_wp (L, xs) 30 204 10 [.ref 1000050, .ref 0, .ref 134, .int (Int32.ofNat (i + 8))] [] (am_shT, mrL b3, mi3, ml3) Q) : am_wp (L, xs) 30 204 21 [.ref 1000050, .ref 0, .ref 134, .int (Int32.ofNat (i))] [.int 11] (am_shT, mrL b, mi, ml) Q := by
  refine wi_tsw (t := 327) rfl rfl (by decide) rfl ?_
  refine wi_aload_n rfl rfl ?_
  refine wi_aload_n rfl rfl ?_
  refine wi_iload_n rfl rfl ?_
  refine wi_iconst (x := 1) rfl rfl ?_
  refine wn_iadd (z := (Int32.ofNat (i + 1))) rfl (add_n (a := i) (b := 1) rfl (rfl : (1 : Int32) = Int32.ofNat 1)) ?_
  refine wn_ialoadX (q := i + 1) rfl hL rfl (by show i + 1 < L; omega) (v := xs (i + 1)) rfl ?_
  refine wi_aload_n rfl rfl ?_
  refine wi_iload_n rfl rfl ?_
  refine wi_iconst (x := 2) rfl rfl ?_
  refine wn_iadd (z := (Int32.ofNat (i + 2))) rfl (add_n (a := i) (b := 2) rfl (rfl : (2 : Int32) = Int32.ofNat 2)) ?_
  refine wn_ialoadX (q := i + 2) rfl hL rfl (by show i + 2 < L; omega) (v := xs (i + 2)) rfl ?_
  refine wi_aload_n rfl rfl ?_
  refine wi_iload_n rfl rfl ?_
  refine wi_iconst (x := 3) rfl rfl ?_
  refine wn_iadd (z := (Int32.ofNat (i + 3))) rfl (add_n (a := i) (b := 3) rfl (rfl : (3 : Int32) = Int32.ofNat 3)) ?_
  refine wn_ialoadX (q := i + 3) rfl hL rfl (by show i + 3 < L; omega) (v := xs (i + 3)) rfl ?_
  refine wi_aload_n rfl rfl ?_
  refine wi_iload_n rfl rfl ?_
  refine wi_iconst (x := 4) rfl rfl ?_
  refine wn_iadd (z := (Int32.ofNat (i + 4))) rfl (add_n (a := i) (b := 4) rfl (rfl : (4 : Int32) = Int32.ofNat 4)) ?_
  refine wn_ialoadX (q := i + 4) rfl hL rfl (by show i + 4 < L; omega) (v := xs (i + 4)) rfl ?_
  refine wi_callV4 rfl (by decide) (by decide) rfl (kd_0 ..) rfl rfl rfl (a_plan mi ml b hR _ (fun v mi2 ml2 b2 hm => ?_))
  refine wi_aload_n rfl rfl ?_
  refine wi_aload_n rfl rfl ?_
  refine wi_iload_n rfl rfl ?_
  refine wi_iconst (x := 1) rfl rfl ?_
  refine wn_iadd (z := (Int32.ofNat (i + 1))) rfl (add_n (a := i) (b := 1) rfl (rfl : (1 : Int32) = Int32.ofNat 1)) ?_
  refine wn_ialoadX (q := i + 1) rfl hL rfl (by show i + 1 < L; omega) (v := xs (i + 1)) rfl ?_
  refine wi_aload_n rfl rfl ?_
  refine wi_iload_n rfl rfl ?_
  refine wi_iconst (x := 2) rfl rfl ?_
  refine wn_iadd (z := (Int32.ofNat (i + 2))) rfl (add_n (a := i) (b := 2) rfl (rfl : (2 : Int32) = Int32.ofNat 2)) ?_
  refine wn_ialoadX (q := i + 2) rfl hL rfl (by show i + 2 < L; omega) (v := xs (i + 2)) rfl ?_
  refine wi_aload_n rfl rfl ?_
  refine wi_iload_n rfl rfl ?_
  refine wi_iconst (x := 3) rfl rfl ?_
  refine wn_iadd (z := (Int32.ofNat (i + 3))) rfl (add_n (a := i) (b := 3) rfl (rfl : (3 : Int32) = Int32.ofNat 3)) ?_
  refine wn_ialoadX (q := i + 3) rfl hL rfl (by show i + 3 < L; omega) (v := xs (i + 3)) rfl ?_
  refine wi_aload_n rfl rfl ?_
  refine wi_iload_n rfl rfl ?_
  refine wi_iconst (x := 4) rfl rfl ?_
  refine wn_iadd (z := (Int32.ofNat (i + 4))) rfl (add_n (a := i) (b := 4) rfl (rfl : (4 : Int32) = Int32.ofNat 4)) ?_
  refine wn_ialoadX (q := i + 4) rfl hL rfl (by show i + 4 < L; omega) (v := xs (i + 4)) rfl ?_
  refine wi_callV4 rfl (by decide) (by decide) rfl (kd_134 ..) rfl rfl rfl (hm _ (fun mi3 ml3 b3 hR3 => ?_))
  refine wi_icmp_eq rfl (fun _ => ?_) (fun h9 => absurd rfl h9)
  refine wi_iinc (z := (Int32.ofNat (i + 8))) rfl rfl rfl (add_n (a := i) (b := 8) rfl rfl) rfl ?_
  refine wi_goto rfl ?_
  exact hQ mi3 ml3 b3 hR3
set_option maxRecDepth 100000 in
theorem lw_planned {L : Nat} {xs : Nat → Int32} {Q : Option Value → am_M → Prop} {mi : Nat → Nat → Int32} {ml : Nat → Nat → Int64} {b : Bool} {i : Nat} (hL : L ≤ 4096) (hi : i + 8 ≤ L) (hR : R mi ml b) (hQ : ∀ mi3 ml3 b3, R mi3 ml3 b3 → am_wp (L, xs) 30 204 10 [.ref 1000050, .ref 0, .ref 134, .int (Int32.ofNat (i + 8))] [] (am_shT, mrL b3, mi3, ml3) Q) : am_wp (L, xs) 30 204 21 [.ref 1000050, .ref 0, .ref 134, .int (Int32.ofNat (i))] [.int 12] (am_shT, mrL b, mi, ml) Q := by
  refine wi_tsw (t := 374) rfl rfl (by decide) rfl ?_
  refine wi_aload_n rfl rfl ?_
  refine wi_aload_n rfl rfl ?_
  refine wi_iload_n rfl rfl ?_
  refine wi_iconst (x := 1) rfl rfl ?_
  refine wn_iadd (z := (Int32.ofNat (i + 1))) rfl (add_n (a := i) (b := 1) rfl (rfl : (1 : Int32) = Int32.ofNat 1)) ?_
  refine wn_ialoadX (q := i + 1) rfl hL rfl (by show i + 1 < L; omega) (v := xs (i + 1)) rfl ?_
  refine wi_callV1 rfl (by decide) (by decide) rfl (kd_0 ..) rfl rfl rfl (a_planned mi ml b hR _ (fun v mi2 ml2 b2 hm => ?_))
  refine wi_aload_n rfl rfl ?_
  refine wi_aload_n rfl rfl ?_
  refine wi_iload_n rfl rfl ?_
  refine wi_iconst (x := 1) rfl rfl ?_
  refine wn_iadd (z := (Int32.ofNat (i + 1))) rfl (add_n (a := i) (b := 1) rfl (rfl : (1 : Int32) = Int32.ofNat 1)) ?_
  refine wn_ialoadX (q := i + 1) rfl hL rfl (by show i + 1 < L; omega) (v := xs (i + 1)) rfl ?_
  refine wi_callV1 rfl (by decide) (by decide) rfl (kd_134 ..) rfl rfl rfl (hm _ (fun mi3 ml3 b3 hR3 => ?_))
  refine wi_icmp_eq rfl (fun _ => ?_) (fun h9 => absurd rfl h9)
  refine wi_iinc (z := (Int32.ofNat (i + 8))) rfl rfl rfl (add_n (a := i) (b := 8) rfl rfl) rfl ?_
  refine wi_goto rfl ?_
  exact hQ mi3 ml3 b3 hR3
set_option maxRecDepth 100000 in
theorem lw_feed {L : Nat} {xs : Nat → Int32} {Q : Option Value → am_M → Prop} {mi : Nat → Nat → Int32} {ml : Nat → Nat → Int64} {b : Bool} {i : Nat} (hL : L ≤ 4096) (hi : i + 8 ≤ L) (hR : R mi ml b) (hQ : ∀ mi3 ml3 b3, R mi3 ml3 b3 → am_wp (L, xs) 30 204 10 [.ref 1000050, .ref 0, .ref 134, .int (Int32.ofNat (i + 8))] [] (am_shT, mrL b3, mi3, ml3) Q) : am_wp (L, xs) 30 204 21 [.ref 1000050, .ref 0, .ref 134, .int (Int32.ofNat (i))] [.int 13] (am_shT, mrL b, mi, ml) Q := by
  refine wi_tsw (t := 391) rfl rfl (by decide) rfl ?_
  refine wi_aload_n rfl rfl ?_
  refine wi_aload_n rfl rfl ?_
  refine wi_iload_n rfl rfl ?_
  refine wi_iconst (x := 1) rfl rfl ?_
  refine wn_iadd (z := (Int32.ofNat (i + 1))) rfl (add_n (a := i) (b := 1) rfl (rfl : (1 : Int32) = Int32.ofNat 1)) ?_
  refine wn_ialoadX (q := i + 1) rfl hL rfl (by show i + 1 < L; omega) (v := xs (i + 1)) rfl ?_
  refine wi_aload_n rfl rfl ?_
  refine wi_iload_n rfl rfl ?_
  refine wi_iconst (x := 2) rfl rfl ?_
  refine wn_iadd (z := (Int32.ofNat (i + 2))) rfl (add_n (a := i) (b := 2) rfl (rfl : (2 : Int32) = Int32.ofNat 2)) ?_
  refine wn_ialoadX (q := i + 2) rfl hL rfl (by show i + 2 < L; omega) (v := xs (i + 2)) rfl ?_
  refine wi_aload_n rfl rfl ?_
  refine wi_iload_n rfl rfl ?_
  refine wi_iconst (x := 3) rfl rfl ?_
  refine wn_iadd (z := (Int32.ofNat (i + 3))) rfl (add_n (a := i) (b := 3) rfl (rfl : (3 : Int32) = Int32.ofNat 3)) ?_
  refine wn_ialoadX (q := i + 3) rfl hL rfl (by show i + 3 < L; omega) (v := xs (i + 3)) rfl ?_
  refine wi_aload_n rfl rfl ?_
  refine wi_iload_n rfl rfl ?_
  refine wi_iconst (x := 4) rfl rfl ?_
  refine wn_iadd (z := (Int32.ofNat (i + 4))) rfl (add_n (a := i) (b := 4) rfl (rfl : (4 : Int32) = Int32.ofNat 4)) ?_
  refine wn_ialoadX (q := i + 4) rfl hL rfl (by show i + 4 < L; omega) (v := xs (i + 4)) rfl ?_
  refine wi_aload_n rfl rfl ?_
  refine wi_iload_n rfl rfl ?_
  refine wi_iconst (x := 5) rfl rfl ?_
  refine wn_iadd (z := (Int32.ofNat (i + 5))) rfl (add_n (a := i) (b := 5) rfl (rfl : (5 : Int32) = Int32.ofNat 5)) ?_
  refine wn_ialoadX (q := i + 5) rfl hL rfl (by show i + 5 < L; omega) (v := xs (i + 5)) rfl ?_
  refine wi_callV5 rfl (by decide) (by decide) rfl (kd_0 ..) rfl rfl rfl (a_feed mi ml b hR _ (fun v mi2 ml2 b2 hm => ?_))
  refine wi_aload_n rfl rfl ?_
  refine wi_aload_n rfl rfl ?_
  refine wi_iload_n rfl rfl ?_
  refine wi_iconst (x := 1) rfl rfl ?_
  refine wn_iadd (z := (Int32.ofNat (i + 1))) rfl (add_n (a := i) (b := 1) rfl (rfl : (1 : Int32) = Int32.ofNat 1)) ?_
  refine wn_ialoadX (q := i + 1) rfl hL rfl (by show i + 1 < L; omega) (v := xs (i + 1)) rfl ?_
  refine wi_aload_n rfl rfl ?_
  refine wi_iload_n rfl rfl ?_
  refine wi_iconst (x := 2) rfl rfl ?_
  refine wn_iadd (z := (Int32.ofNat (i + 2))) rfl (add_n (a := i) (b := 2) rfl (rfl : (2 : Int32) = Int32.ofNat 2)) ?_
  refine wn_ialoadX (q := i + 2) rfl hL rfl (by show i + 2 < L; omega) (v := xs (i + 2)) rfl ?_
  refine wi_aload_n rfl rfl ?_
  refine wi_iload_n rfl rfl ?_
  refine wi_iconst (x := 3) rfl rfl ?_
  refine wn_iadd (z := (Int32.ofNat (i + 3))) rfl (add_n (a := i) (b := 3) rfl (rfl : (3 : Int32) = Int32.ofNat 3)) ?_
  refine wn_ialoadX (q := i + 3) rfl hL rfl (by show i + 3 < L; omega) (v := xs (i + 3)) rfl ?_
  refine wi_aload_n rfl rfl ?_
  refine wi_iload_n rfl rfl ?_
  refine wi_iconst (x := 4) rfl rfl ?_
  refine wn_iadd (z := (Int32.ofNat (i + 4))) rfl (add_n (a := i) (b := 4) rfl (rfl : (4 : Int32) = Int32.ofNat 4)) ?_
  refine wn_ialoadX (q := i + 4) rfl hL rfl (by show i + 4 < L; omega) (v := xs (i + 4)) rfl ?_
  refine wi_aload_n rfl rfl ?_
  refine wi_iload_n rfl rfl ?_
  refine wi_iconst (x := 5) rfl rfl ?_
  refine wn_iadd (z := (Int32.ofNat (i + 5))) rfl (add_n (a := i) (b := 5) rfl (rfl : (5 : Int32) = Int32.ofNat 5)) ?_
  refine wn_ialoadX (q := i + 5) rfl hL rfl (by show i + 5 < L; omega) (v := xs (i + 5)) rfl ?_
  refine wi_callV5 rfl (by decide) (by decide) rfl (kd_134 ..) rfl rfl rfl (hm _ (fun mi3 ml3 b3 hR3 => ?_))
  refine wi_icmp_eq rfl (fun _ => ?_) (fun h9 => absurd rfl h9)
  refine wi_iinc (z := (Int32.ofNat (i + 8))) rfl rfl rfl (add_n (a := i) (b := 8) rfl rfl) rfl ?_
  refine wi_goto rfl ?_
  exact hQ mi3 ml3 b3 hR3
set_option maxRecDepth 100000 in
theorem lw_rules {L : Nat} {xs : Nat → Int32} {Q : Option Value → am_M → Prop} {mi : Nat → Nat → Int32} {ml : Nat → Nat → Int64} {b : Bool} {i : Nat} (hL : L ≤ 4096) (hi : i + 8 ≤ L) (hR : R mi ml b) (hQ : ∀ mi3 ml3 b3, R mi3 ml3 b3 → am_wp (L, xs) 30 204 10 [.ref 1000050, .ref 0, .ref 134, .int (Int32.ofNat (i + 8))] [] (am_shT, mrL b3, mi3, ml3) Q) : am_wp (L, xs) 30 204 21 [.ref 1000050, .ref 0, .ref 134, .int (Int32.ofNat (i))] [.int 14] (am_shT, mrL b, mi, ml) Q := by
  refine wi_tsw (t := 448) rfl rfl (by decide) rfl ?_
  refine wi_aload_n rfl rfl ?_
  refine wi_aload_n rfl rfl ?_
  refine wi_iload_n rfl rfl ?_
  refine wi_iconst (x := 1) rfl rfl ?_
  refine wn_iadd (z := (Int32.ofNat (i + 1))) rfl (add_n (a := i) (b := 1) rfl (rfl : (1 : Int32) = Int32.ofNat 1)) ?_
  refine wn_ialoadX (q := i + 1) rfl hL rfl (by show i + 1 < L; omega) (v := xs (i + 1)) rfl ?_
  refine wi_callV1 rfl (by decide) (by decide) rfl (kd_0 ..) rfl rfl rfl (a_rules mi ml b hR _ (fun v mi2 ml2 b2 hm => ?_))
  refine wi_aload_n rfl rfl ?_
  refine wi_aload_n rfl rfl ?_
  refine wi_iload_n rfl rfl ?_
  refine wi_iconst (x := 1) rfl rfl ?_
  refine wn_iadd (z := (Int32.ofNat (i + 1))) rfl (add_n (a := i) (b := 1) rfl (rfl : (1 : Int32) = Int32.ofNat 1)) ?_
  refine wn_ialoadX (q := i + 1) rfl hL rfl (by show i + 1 < L; omega) (v := xs (i + 1)) rfl ?_
  refine wi_callV1 rfl (by decide) (by decide) rfl (kd_134 ..) rfl rfl rfl (hm _ (fun mi3 ml3 b3 hR3 => ?_))
  refine wi_icmp_eq rfl (fun _ => ?_) (fun h9 => absurd rfl h9)
  refine wi_iinc (z := (Int32.ofNat (i + 8))) rfl rfl rfl (add_n (a := i) (b := 8) rfl rfl) rfl ?_
  refine wi_goto rfl ?_
  exact hQ mi3 ml3 b3 hR3
set_option maxRecDepth 100000 in
theorem lw_fault {L : Nat} {xs : Nat → Int32} {Q : Option Value → am_M → Prop} {mi : Nat → Nat → Int32} {ml : Nat → Nat → Int64} {b : Bool} {i : Nat} (hL : L ≤ 4096) (hi : i + 8 ≤ L) (hR : R mi ml b) (hQ : ∀ mi3 ml3 b3, R mi3 ml3 b3 → am_wp (L, xs) 30 204 10 [.ref 1000050, .ref 0, .ref 134, .int (Int32.ofNat (i + 8))] [] (am_shT, mrL b3, mi3, ml3) Q) : am_wp (L, xs) 30 204 21 [.ref 1000050, .ref 0, .ref 134, .int (Int32.ofNat (i))] [.int 15] (am_shT, mrL b, mi, ml) Q := by
  refine wi_tsw (t := 465) rfl rfl (by decide) rfl ?_
  refine wi_aload_n rfl rfl ?_
  refine wi_aload_n rfl rfl ?_
  refine wi_iload_n rfl rfl ?_
  refine wi_iconst (x := 1) rfl rfl ?_
  refine wn_iadd (z := (Int32.ofNat (i + 1))) rfl (add_n (a := i) (b := 1) rfl (rfl : (1 : Int32) = Int32.ofNat 1)) ?_
  refine wn_ialoadX (q := i + 1) rfl hL rfl (by show i + 1 < L; omega) (v := xs (i + 1)) rfl ?_
  refine wi_callV1 rfl (by decide) (by decide) rfl (kd_0 ..) rfl rfl rfl (a_fault mi ml b hR _ (fun v mi2 ml2 b2 hm => ?_))
  refine wi_aload_n rfl rfl ?_
  refine wi_aload_n rfl rfl ?_
  refine wi_iload_n rfl rfl ?_
  refine wi_iconst (x := 1) rfl rfl ?_
  refine wn_iadd (z := (Int32.ofNat (i + 1))) rfl (add_n (a := i) (b := 1) rfl (rfl : (1 : Int32) = Int32.ofNat 1)) ?_
  refine wn_ialoadX (q := i + 1) rfl hL rfl (by show i + 1 < L; omega) (v := xs (i + 1)) rfl ?_
  refine wi_callV1 rfl (by decide) (by decide) rfl (kd_134 ..) rfl rfl rfl (hm _ (fun mi3 ml3 b3 hR3 => ?_))
  refine wi_icmp_eq rfl (fun _ => ?_) (fun h9 => absurd rfl h9)
  refine wi_iinc (z := (Int32.ofNat (i + 8))) rfl rfl rfl (add_n (a := i) (b := 8) rfl rfl) rfl ?_
  refine wi_goto rfl ?_
  exact hQ mi3 ml3 b3 hR3
set_option maxRecDepth 100000 in
theorem lw_rate {L : Nat} {xs : Nat → Int32} {Q : Option Value → am_M → Prop} {mi : Nat → Nat → Int32} {ml : Nat → Nat → Int64} {b : Bool} {i : Nat} (hL : L ≤ 4096) (hi : i + 8 ≤ L) (hR : R mi ml b) (hQ : ∀ mi3 ml3 b3, R mi3 ml3 b3 → am_wp (L, xs) 30 204 10 [.ref 1000050, .ref 0, .ref 134, .int (Int32.ofNat (i + 8))] [] (am_shT, mrL b3, mi3, ml3) Q) : am_wp (L, xs) 30 204 21 [.ref 1000050, .ref 0, .ref 134, .int (Int32.ofNat (i))] [.int 16] (am_shT, mrL b, mi, ml) Q := by
  refine wi_tsw (t := 482) rfl rfl (by decide) rfl ?_
  refine wi_aload_n rfl rfl ?_
  refine wi_aload_n rfl rfl ?_
  refine wi_iload_n rfl rfl ?_
  refine wi_iconst (x := 1) rfl rfl ?_
  refine wn_iadd (z := (Int32.ofNat (i + 1))) rfl (add_n (a := i) (b := 1) rfl (rfl : (1 : Int32) = Int32.ofNat 1)) ?_
  refine wn_ialoadX (q := i + 1) rfl hL rfl (by show i + 1 < L; omega) (v := xs (i + 1)) rfl ?_
  refine wi_callV1 rfl (by decide) (by decide) rfl (kd_0 ..) rfl rfl rfl (a_rate mi ml b hR _ (fun v mi2 ml2 b2 hm => ?_))
  refine wi_aload_n rfl rfl ?_
  refine wi_aload_n rfl rfl ?_
  refine wi_iload_n rfl rfl ?_
  refine wi_iconst (x := 1) rfl rfl ?_
  refine wn_iadd (z := (Int32.ofNat (i + 1))) rfl (add_n (a := i) (b := 1) rfl (rfl : (1 : Int32) = Int32.ofNat 1)) ?_
  refine wn_ialoadX (q := i + 1) rfl hL rfl (by show i + 1 < L; omega) (v := xs (i + 1)) rfl ?_
  refine wi_callV1 rfl (by decide) (by decide) rfl (kd_134 ..) rfl rfl rfl (hm _ (fun mi3 ml3 b3 hR3 => ?_))
  refine wi_icmp_eq rfl (fun _ => ?_) (fun h9 => absurd rfl h9)
  refine wi_iinc (z := (Int32.ofNat (i + 8))) rfl rfl rfl (add_n (a := i) (b := 8) rfl rfl) rfl ?_
  refine wi_goto rfl ?_
  exact hQ mi3 ml3 b3 hR3
set_option maxRecDepth 100000 in
theorem lw_when {L : Nat} {xs : Nat → Int32} {Q : Option Value → am_M → Prop} {mi : Nat → Nat → Int32} {ml : Nat → Nat → Int64} {b : Bool} {i : Nat} (hL : L ≤ 4096) (hi : i + 8 ≤ L) (hR : R mi ml b) (hQ : ∀ mi3 ml3 b3, R mi3 ml3 b3 → am_wp (L, xs) 30 204 10 [.ref 1000050, .ref 0, .ref 134, .int (Int32.ofNat (i + 8))] [] (am_shT, mrL b3, mi3, ml3) Q) : am_wp (L, xs) 30 204 21 [.ref 1000050, .ref 0, .ref 134, .int (Int32.ofNat (i))] [.int 17] (am_shT, mrL b, mi, ml) Q := by
  refine wi_tsw (t := 499) rfl rfl (by decide) rfl ?_
  refine wi_aload_n rfl rfl ?_
  refine wi_aload_n rfl rfl ?_
  refine wi_iload_n rfl rfl ?_
  refine wi_iconst (x := 1) rfl rfl ?_
  refine wn_iadd (z := (Int32.ofNat (i + 1))) rfl (add_n (a := i) (b := 1) rfl (rfl : (1 : Int32) = Int32.ofNat 1)) ?_
  refine wn_ialoadX (q := i + 1) rfl hL rfl (by show i + 1 < L; omega) (v := xs (i + 1)) rfl ?_
  refine wi_aload_n rfl rfl ?_
  refine wi_iload_n rfl rfl ?_
  refine wi_iconst (x := 2) rfl rfl ?_
  refine wn_iadd (z := (Int32.ofNat (i + 2))) rfl (add_n (a := i) (b := 2) rfl (rfl : (2 : Int32) = Int32.ofNat 2)) ?_
  refine wn_ialoadX (q := i + 2) rfl hL rfl (by show i + 2 < L; omega) (v := xs (i + 2)) rfl ?_
  refine wi_aload_n rfl rfl ?_
  refine wi_iload_n rfl rfl ?_
  refine wi_iconst (x := 3) rfl rfl ?_
  refine wn_iadd (z := (Int32.ofNat (i + 3))) rfl (add_n (a := i) (b := 3) rfl (rfl : (3 : Int32) = Int32.ofNat 3)) ?_
  refine wn_ialoadX (q := i + 3) rfl hL rfl (by show i + 3 < L; omega) (v := xs (i + 3)) rfl ?_
  refine wi_callV3 rfl (by decide) (by decide) rfl (kd_0 ..) rfl rfl rfl (a_when mi ml b hR _ (fun v mi2 ml2 b2 hm => ?_))
  refine wi_aload_n rfl rfl ?_
  refine wi_aload_n rfl rfl ?_
  refine wi_iload_n rfl rfl ?_
  refine wi_iconst (x := 1) rfl rfl ?_
  refine wn_iadd (z := (Int32.ofNat (i + 1))) rfl (add_n (a := i) (b := 1) rfl (rfl : (1 : Int32) = Int32.ofNat 1)) ?_
  refine wn_ialoadX (q := i + 1) rfl hL rfl (by show i + 1 < L; omega) (v := xs (i + 1)) rfl ?_
  refine wi_aload_n rfl rfl ?_
  refine wi_iload_n rfl rfl ?_
  refine wi_iconst (x := 2) rfl rfl ?_
  refine wn_iadd (z := (Int32.ofNat (i + 2))) rfl (add_n (a := i) (b := 2) rfl (rfl : (2 : Int32) = Int32.ofNat 2)) ?_
  refine wn_ialoadX (q := i + 2) rfl hL rfl (by show i + 2 < L; omega) (v := xs (i + 2)) rfl ?_
  refine wi_aload_n rfl rfl ?_
  refine wi_iload_n rfl rfl ?_
  refine wi_iconst (x := 3) rfl rfl ?_
  refine wn_iadd (z := (Int32.ofNat (i + 3))) rfl (add_n (a := i) (b := 3) rfl (rfl : (3 : Int32) = Int32.ofNat 3)) ?_
  refine wn_ialoadX (q := i + 3) rfl hL rfl (by show i + 3 < L; omega) (v := xs (i + 3)) rfl ?_
  refine wi_callV3 rfl (by decide) (by decide) rfl (kd_134 ..) rfl rfl rfl (hm _ (fun mi3 ml3 b3 hR3 => ?_))
  refine wi_icmp_eq rfl (fun _ => ?_) (fun h9 => absurd rfl h9)
  refine wi_iinc (z := (Int32.ofNat (i + 8))) rfl rfl rfl (add_n (a := i) (b := 8) rfl rfl) rfl ?_
  refine wi_goto rfl ?_
  exact hQ mi3 ml3 b3 hR3
set_option maxRecDepth 100000 in
theorem lw_match {L : Nat} {xs : Nat → Int32} {Q : Option Value → am_M → Prop} {mi : Nat → Nat → Int32} {ml : Nat → Nat → Int64} {b : Bool} {i : Nat} (hL : L ≤ 4096) (hi : i + 8 ≤ L) (hR : R mi ml b) (hQ : ∀ mi3 ml3 b3, R mi3 ml3 b3 → am_wp (L, xs) 30 204 10 [.ref 1000050, .ref 0, .ref 134, .int (Int32.ofNat (i + 8))] [] (am_shT, mrL b3, mi3, ml3) Q) : am_wp (L, xs) 30 204 21 [.ref 1000050, .ref 0, .ref 134, .int (Int32.ofNat (i))] [.int 18] (am_shT, mrL b, mi, ml) Q := by
  refine wi_tsw (t := 536) rfl rfl (by decide) rfl ?_
  refine wi_aload_n rfl rfl ?_
  refine wi_aload_n rfl rfl ?_
  refine wi_iload_n rfl rfl ?_
  refine wi_iconst (x := 1) rfl rfl ?_
  refine wn_iadd (z := (Int32.ofNat (i + 1))) rfl (add_n (a := i) (b := 1) rfl (rfl : (1 : Int32) = Int32.ofNat 1)) ?_
  refine wn_ialoadX (q := i + 1) rfl hL rfl (by show i + 1 < L; omega) (v := xs (i + 1)) rfl ?_
  refine wi_aload_n rfl rfl ?_
  refine wi_iload_n rfl rfl ?_
  refine wi_iconst (x := 2) rfl rfl ?_
  refine wn_iadd (z := (Int32.ofNat (i + 2))) rfl (add_n (a := i) (b := 2) rfl (rfl : (2 : Int32) = Int32.ofNat 2)) ?_
  refine wn_ialoadX (q := i + 2) rfl hL rfl (by show i + 2 < L; omega) (v := xs (i + 2)) rfl ?_
  refine wi_callV2 rfl (by decide) (by decide) rfl (kd_0 ..) rfl rfl rfl (a_match mi ml b hR _ (fun v mi2 ml2 b2 hm => ?_))
  refine wi_aload_n rfl rfl ?_
  refine wi_aload_n rfl rfl ?_
  refine wi_iload_n rfl rfl ?_
  refine wi_iconst (x := 1) rfl rfl ?_
  refine wn_iadd (z := (Int32.ofNat (i + 1))) rfl (add_n (a := i) (b := 1) rfl (rfl : (1 : Int32) = Int32.ofNat 1)) ?_
  refine wn_ialoadX (q := i + 1) rfl hL rfl (by show i + 1 < L; omega) (v := xs (i + 1)) rfl ?_
  refine wi_aload_n rfl rfl ?_
  refine wi_iload_n rfl rfl ?_
  refine wi_iconst (x := 2) rfl rfl ?_
  refine wn_iadd (z := (Int32.ofNat (i + 2))) rfl (add_n (a := i) (b := 2) rfl (rfl : (2 : Int32) = Int32.ofNat 2)) ?_
  refine wn_ialoadX (q := i + 2) rfl hL rfl (by show i + 2 < L; omega) (v := xs (i + 2)) rfl ?_
  refine wi_callV2 rfl (by decide) (by decide) rfl (kd_134 ..) rfl rfl rfl (hm _ (fun mi3 ml3 b3 hR3 => ?_))
  refine wi_icmp_eq rfl (fun _ => ?_) (fun h9 => absurd rfl h9)
  refine wi_iinc (z := (Int32.ofNat (i + 8))) rfl rfl rfl (add_n (a := i) (b := 8) rfl rfl) rfl ?_
  refine wi_goto rfl ?_
  exact hQ mi3 ml3 b3 hR3
set_option maxRecDepth 100000 in
theorem lw_worth {L : Nat} {xs : Nat → Int32} {Q : Option Value → am_M → Prop} {mi : Nat → Nat → Int32} {ml : Nat → Nat → Int64} {b : Bool} {i : Nat} (hL : L ≤ 4096) (hi : i + 8 ≤ L) (hR : R mi ml b) (hQ : ∀ mi3 ml3 b3, R mi3 ml3 b3 → am_wp (L, xs) 30 204 10 [.ref 1000050, .ref 0, .ref 134, .int (Int32.ofNat (i + 8))] [] (am_shT, mrL b3, mi3, ml3) Q) : am_wp (L, xs) 30 204 21 [.ref 1000050, .ref 0, .ref 134, .int (Int32.ofNat (i))] [.int 19] (am_shT, mrL b, mi, ml) Q := by
  refine wi_tsw (t := 563) rfl rfl (by decide) rfl ?_
  refine wi_aload_n rfl rfl ?_
  refine wi_aload_n rfl rfl ?_
  refine wi_iload_n rfl rfl ?_
  refine wi_iconst (x := 1) rfl rfl ?_
  refine wn_iadd (z := (Int32.ofNat (i + 1))) rfl (add_n (a := i) (b := 1) rfl (rfl : (1 : Int32) = Int32.ofNat 1)) ?_
  refine wn_ialoadX (q := i + 1) rfl hL rfl (by show i + 1 < L; omega) (v := xs (i + 1)) rfl ?_
  refine wi_aload_n rfl rfl ?_
  refine wi_iload_n rfl rfl ?_
  refine wi_iconst (x := 2) rfl rfl ?_
  refine wn_iadd (z := (Int32.ofNat (i + 2))) rfl (add_n (a := i) (b := 2) rfl (rfl : (2 : Int32) = Int32.ofNat 2)) ?_
  refine wn_ialoadX (q := i + 2) rfl hL rfl (by show i + 2 < L; omega) (v := xs (i + 2)) rfl ?_
  refine wi_aload_n rfl rfl ?_
  refine wi_iload_n rfl rfl ?_
  refine wi_iconst (x := 3) rfl rfl ?_
  refine wn_iadd (z := (Int32.ofNat (i + 3))) rfl (add_n (a := i) (b := 3) rfl (rfl : (3 : Int32) = Int32.ofNat 3)) ?_
  refine wn_ialoadX (q := i + 3) rfl hL rfl (by show i + 3 < L; omega) (v := xs (i + 3)) rfl ?_
  refine wi_callV3 rfl (by decide) (by decide) rfl (kd_0 ..) rfl rfl rfl (a_worth mi ml b hR _ (fun v mi2 ml2 b2 hm => ?_))
  refine wi_aload_n rfl rfl ?_
  refine wi_aload_n rfl rfl ?_
  refine wi_iload_n rfl rfl ?_
  refine wi_iconst (x := 1) rfl rfl ?_
  refine wn_iadd (z := (Int32.ofNat (i + 1))) rfl (add_n (a := i) (b := 1) rfl (rfl : (1 : Int32) = Int32.ofNat 1)) ?_
  refine wn_ialoadX (q := i + 1) rfl hL rfl (by show i + 1 < L; omega) (v := xs (i + 1)) rfl ?_
  refine wi_aload_n rfl rfl ?_
  refine wi_iload_n rfl rfl ?_
  refine wi_iconst (x := 2) rfl rfl ?_
  refine wn_iadd (z := (Int32.ofNat (i + 2))) rfl (add_n (a := i) (b := 2) rfl (rfl : (2 : Int32) = Int32.ofNat 2)) ?_
  refine wn_ialoadX (q := i + 2) rfl hL rfl (by show i + 2 < L; omega) (v := xs (i + 2)) rfl ?_
  refine wi_aload_n rfl rfl ?_
  refine wi_iload_n rfl rfl ?_
  refine wi_iconst (x := 3) rfl rfl ?_
  refine wn_iadd (z := (Int32.ofNat (i + 3))) rfl (add_n (a := i) (b := 3) rfl (rfl : (3 : Int32) = Int32.ofNat 3)) ?_
  refine wn_ialoadX (q := i + 3) rfl hL rfl (by show i + 3 < L; omega) (v := xs (i + 3)) rfl ?_
  refine wi_callV3 rfl (by decide) (by decide) rfl (kd_134 ..) rfl rfl rfl (hm _ (fun mi3 ml3 b3 hR3 => ?_))
  refine wi_icmp_eq rfl (fun _ => ?_) (fun h9 => absurd rfl h9)
  refine wi_iinc (z := (Int32.ofNat (i + 8))) rfl rfl rfl (add_n (a := i) (b := 8) rfl rfl) rfl ?_
  refine wi_goto rfl ?_
  exact hQ mi3 ml3 b3 hR3
set_option maxRecDepth 100000 in
theorem lw_rests {L : Nat} {xs : Nat → Int32} {Q : Option Value → am_M → Prop} {mi : Nat → Nat → Int32} {ml : Nat → Nat → Int64} {b : Bool} {i : Nat} (hL : L ≤ 4096) (hi : i + 8 ≤ L) (hR : R mi ml b) (hQ : ∀ mi3 ml3 b3, R mi3 ml3 b3 → am_wp (L, xs) 30 204 10 [.ref 1000050, .ref 0, .ref 134, .int (Int32.ofNat (i + 8))] [] (am_shT, mrL b3, mi3, ml3) Q) : am_wp (L, xs) 30 204 21 [.ref 1000050, .ref 0, .ref 134, .int (Int32.ofNat (i))] [.int 20] (am_shT, mrL b, mi, ml) Q := by
  refine wi_tsw (t := 600) rfl rfl (by decide) rfl ?_
  refine wi_aload_n rfl rfl ?_
  refine wi_aload_n rfl rfl ?_
  refine wi_iload_n rfl rfl ?_
  refine wi_iconst (x := 1) rfl rfl ?_
  refine wn_iadd (z := (Int32.ofNat (i + 1))) rfl (add_n (a := i) (b := 1) rfl (rfl : (1 : Int32) = Int32.ofNat 1)) ?_
  refine wn_ialoadX (q := i + 1) rfl hL rfl (by show i + 1 < L; omega) (v := xs (i + 1)) rfl ?_
  refine wi_aload_n rfl rfl ?_
  refine wi_iload_n rfl rfl ?_
  refine wi_iconst (x := 2) rfl rfl ?_
  refine wn_iadd (z := (Int32.ofNat (i + 2))) rfl (add_n (a := i) (b := 2) rfl (rfl : (2 : Int32) = Int32.ofNat 2)) ?_
  refine wn_ialoadX (q := i + 2) rfl hL rfl (by show i + 2 < L; omega) (v := xs (i + 2)) rfl ?_
  refine wi_callV2 rfl (by decide) (by decide) rfl (kd_0 ..) rfl rfl rfl (a_rests mi ml b hR _ (fun v mi2 ml2 b2 hm => ?_))
  refine wi_aload_n rfl rfl ?_
  refine wi_aload_n rfl rfl ?_
  refine wi_iload_n rfl rfl ?_
  refine wi_iconst (x := 1) rfl rfl ?_
  refine wn_iadd (z := (Int32.ofNat (i + 1))) rfl (add_n (a := i) (b := 1) rfl (rfl : (1 : Int32) = Int32.ofNat 1)) ?_
  refine wn_ialoadX (q := i + 1) rfl hL rfl (by show i + 1 < L; omega) (v := xs (i + 1)) rfl ?_
  refine wi_aload_n rfl rfl ?_
  refine wi_iload_n rfl rfl ?_
  refine wi_iconst (x := 2) rfl rfl ?_
  refine wn_iadd (z := (Int32.ofNat (i + 2))) rfl (add_n (a := i) (b := 2) rfl (rfl : (2 : Int32) = Int32.ofNat 2)) ?_
  refine wn_ialoadX (q := i + 2) rfl hL rfl (by show i + 2 < L; omega) (v := xs (i + 2)) rfl ?_
  refine wi_callV2 rfl (by decide) (by decide) rfl (kd_134 ..) rfl rfl rfl (hm _ (fun mi3 ml3 b3 hR3 => ?_))
  refine wi_icmp_eq rfl (fun _ => ?_) (fun h9 => absurd rfl h9)
  refine wi_iinc (z := (Int32.ofNat (i + 8))) rfl rfl rfl (add_n (a := i) (b := 8) rfl rfl) rfl ?_
  refine wi_goto rfl ?_
  exact hQ mi3 ml3 b3 hR3
set_option maxRecDepth 100000 in
theorem lw_give {L : Nat} {xs : Nat → Int32} {Q : Option Value → am_M → Prop} {mi : Nat → Nat → Int32} {ml : Nat → Nat → Int64} {b : Bool} {i : Nat} (hL : L ≤ 4096) (hi : i + 8 ≤ L) (hR : R mi ml b) (hQ : ∀ mi3 ml3 b3, R mi3 ml3 b3 → am_wp (L, xs) 30 204 10 [.ref 1000050, .ref 0, .ref 134, .int (Int32.ofNat (i + 8))] [] (am_shT, mrL b3, mi3, ml3) Q) : am_wp (L, xs) 30 204 21 [.ref 1000050, .ref 0, .ref 134, .int (Int32.ofNat (i))] [.int 21] (am_shT, mrL b, mi, ml) Q := by
  refine wi_tsw (t := 627) rfl rfl (by decide) rfl ?_
  refine wi_aload_n rfl rfl ?_
  refine wi_callV0 rfl (by decide) (by decide) rfl (kd_0 ..) rfl rfl rfl (a_give mi ml b hR _ (fun v mi2 ml2 b2 hm => ?_))
  refine wi_aload_n rfl rfl ?_
  refine wi_callV0 rfl (by decide) (by decide) rfl (kd_134 ..) rfl rfl rfl (hm _ (fun mi3 ml3 b3 hR3 => ?_))
  refine wi_icmp_eq rfl (fun _ => ?_) (fun h9 => absurd rfl h9)
  refine wi_iinc (z := (Int32.ofNat (i + 8))) rfl rfl rfl (add_n (a := i) (b := 8) rfl rfl) rfl ?_
  refine wi_goto rfl ?_
  exact hQ mi3 ml3 b3 hR3
set_option maxRecDepth 100000 in
theorem lw_given {L : Nat} {xs : Nat → Int32} {Q : Option Value → am_M → Prop} {mi : Nat → Nat → Int32} {ml : Nat → Nat → Int64} {b : Bool} {i : Nat} (hL : L ≤ 4096) (hi : i + 8 ≤ L) (hR : R mi ml b) (hQ : ∀ mi3 ml3 b3, R mi3 ml3 b3 → am_wp (L, xs) 30 204 10 [.ref 1000050, .ref 0, .ref 134, .int (Int32.ofNat (i + 8))] [] (am_shT, mrL b3, mi3, ml3) Q) : am_wp (L, xs) 30 204 21 [.ref 1000050, .ref 0, .ref 134, .int (Int32.ofNat (i))] [.int 22] (am_shT, mrL b, mi, ml) Q := by
  refine wi_tsw (t := 634) rfl rfl (by decide) rfl ?_
  refine wi_aload_n rfl rfl ?_
  refine wi_aload_n rfl rfl ?_
  refine wi_iload_n rfl rfl ?_
  refine wi_iconst (x := 1) rfl rfl ?_
  refine wn_iadd (z := (Int32.ofNat (i + 1))) rfl (add_n (a := i) (b := 1) rfl (rfl : (1 : Int32) = Int32.ofNat 1)) ?_
  refine wn_ialoadX (q := i + 1) rfl hL rfl (by show i + 1 < L; omega) (v := xs (i + 1)) rfl ?_
  refine wi_callV1 rfl (by decide) (by decide) rfl (kd_0 ..) rfl rfl rfl (a_given mi ml b hR _ (fun v mi2 ml2 b2 hm => ?_))
  refine wi_aload_n rfl rfl ?_
  refine wi_aload_n rfl rfl ?_
  refine wi_iload_n rfl rfl ?_
  refine wi_iconst (x := 1) rfl rfl ?_
  refine wn_iadd (z := (Int32.ofNat (i + 1))) rfl (add_n (a := i) (b := 1) rfl (rfl : (1 : Int32) = Int32.ofNat 1)) ?_
  refine wn_ialoadX (q := i + 1) rfl hL rfl (by show i + 1 < L; omega) (v := xs (i + 1)) rfl ?_
  refine wi_callV1 rfl (by decide) (by decide) rfl (kd_134 ..) rfl rfl rfl (hm _ (fun mi3 ml3 b3 hR3 => ?_))
  refine wi_icmp_eq rfl (fun _ => ?_) (fun h9 => absurd rfl h9)
  refine wi_iinc (z := (Int32.ofNat (i + 8))) rfl rfl rfl (add_n (a := i) (b := 8) rfl rfl) rfl ?_
  refine wi_goto rfl ?_
  exact hQ mi3 ml3 b3 hR3
set_option maxRecDepth 100000 in
theorem lw_mark {L : Nat} {xs : Nat → Int32} {Q : Option Value → am_M → Prop} {mi : Nat → Nat → Int32} {ml : Nat → Nat → Int64} {b : Bool} {i : Nat} (hL : L ≤ 4096) (hi : i + 8 ≤ L) (hR : R mi ml b) (hQ : ∀ mi3 ml3 b3, R mi3 ml3 b3 → am_wp (L, xs) 30 204 10 [.ref 1000050, .ref 0, .ref 134, .int (Int32.ofNat (i + 8))] [] (am_shT, mrL b3, mi3, ml3) Q) : am_wp (L, xs) 30 204 21 [.ref 1000050, .ref 0, .ref 134, .int (Int32.ofNat (i))] [.int 23] (am_shT, mrL b, mi, ml) Q := by
  refine wi_tsw (t := 651) rfl rfl (by decide) rfl ?_
  refine wi_aload_n rfl rfl ?_
  refine wi_aload_n rfl rfl ?_
  refine wi_iload_n rfl rfl ?_
  refine wi_iconst (x := 1) rfl rfl ?_
  refine wn_iadd (z := (Int32.ofNat (i + 1))) rfl (add_n (a := i) (b := 1) rfl (rfl : (1 : Int32) = Int32.ofNat 1)) ?_
  refine wn_ialoadX (q := i + 1) rfl hL rfl (by show i + 1 < L; omega) (v := xs (i + 1)) rfl ?_
  refine wi_aload_n rfl rfl ?_
  refine wi_iload_n rfl rfl ?_
  refine wi_iconst (x := 2) rfl rfl ?_
  refine wn_iadd (z := (Int32.ofNat (i + 2))) rfl (add_n (a := i) (b := 2) rfl (rfl : (2 : Int32) = Int32.ofNat 2)) ?_
  refine wn_ialoadX (q := i + 2) rfl hL rfl (by show i + 2 < L; omega) (v := xs (i + 2)) rfl ?_
  refine wi_aload_n rfl rfl ?_
  refine wi_iload_n rfl rfl ?_
  refine wi_iconst (x := 3) rfl rfl ?_
  refine wn_iadd (z := (Int32.ofNat (i + 3))) rfl (add_n (a := i) (b := 3) rfl (rfl : (3 : Int32) = Int32.ofNat 3)) ?_
  refine wn_ialoadX (q := i + 3) rfl hL rfl (by show i + 3 < L; omega) (v := xs (i + 3)) rfl ?_
  refine wi_callV3 rfl (by decide) (by decide) rfl (kd_0 ..) rfl rfl rfl (a_mark mi ml b hR _ (fun v mi2 ml2 b2 hm => ?_))
  refine wi_aload_n rfl rfl ?_
  refine wi_aload_n rfl rfl ?_
  refine wi_iload_n rfl rfl ?_
  refine wi_iconst (x := 1) rfl rfl ?_
  refine wn_iadd (z := (Int32.ofNat (i + 1))) rfl (add_n (a := i) (b := 1) rfl (rfl : (1 : Int32) = Int32.ofNat 1)) ?_
  refine wn_ialoadX (q := i + 1) rfl hL rfl (by show i + 1 < L; omega) (v := xs (i + 1)) rfl ?_
  refine wi_aload_n rfl rfl ?_
  refine wi_iload_n rfl rfl ?_
  refine wi_iconst (x := 2) rfl rfl ?_
  refine wn_iadd (z := (Int32.ofNat (i + 2))) rfl (add_n (a := i) (b := 2) rfl (rfl : (2 : Int32) = Int32.ofNat 2)) ?_
  refine wn_ialoadX (q := i + 2) rfl hL rfl (by show i + 2 < L; omega) (v := xs (i + 2)) rfl ?_
  refine wi_aload_n rfl rfl ?_
  refine wi_iload_n rfl rfl ?_
  refine wi_iconst (x := 3) rfl rfl ?_
  refine wn_iadd (z := (Int32.ofNat (i + 3))) rfl (add_n (a := i) (b := 3) rfl (rfl : (3 : Int32) = Int32.ofNat 3)) ?_
  refine wn_ialoadX (q := i + 3) rfl hL rfl (by show i + 3 < L; omega) (v := xs (i + 3)) rfl ?_
  refine wi_callV3 rfl (by decide) (by decide) rfl (kd_134 ..) rfl rfl rfl (hm _ (fun mi3 ml3 b3 hR3 => ?_))
  refine wi_icmp_eq rfl (fun _ => ?_) (fun h9 => absurd rfl h9)
  refine wi_iinc (z := (Int32.ofNat (i + 8))) rfl rfl rfl (add_n (a := i) (b := 8) rfl rfl) rfl ?_
  refine wi_goto rfl ?_
  exact hQ mi3 ml3 b3 hR3
set_option maxRecDepth 100000 in
theorem lw_part {L : Nat} {xs : Nat → Int32} {Q : Option Value → am_M → Prop} {mi : Nat → Nat → Int32} {ml : Nat → Nat → Int64} {b : Bool} {i : Nat} (hL : L ≤ 4096) (hi : i + 8 ≤ L) (hR : R mi ml b) (hQ : ∀ mi3 ml3 b3, R mi3 ml3 b3 → am_wp (L, xs) 30 204 10 [.ref 1000050, .ref 0, .ref 134, .int (Int32.ofNat (i + 8))] [] (am_shT, mrL b3, mi3, ml3) Q) : am_wp (L, xs) 30 204 21 [.ref 1000050, .ref 0, .ref 134, .int (Int32.ofNat (i))] [.int 24] (am_shT, mrL b, mi, ml) Q := by
  refine wi_tsw (t := 688) rfl rfl (by decide) rfl ?_
  refine wi_aload_n rfl rfl ?_
  refine wi_aload_n rfl rfl ?_
  refine wi_iload_n rfl rfl ?_
  refine wi_iconst (x := 1) rfl rfl ?_
  refine wn_iadd (z := (Int32.ofNat (i + 1))) rfl (add_n (a := i) (b := 1) rfl (rfl : (1 : Int32) = Int32.ofNat 1)) ?_
  refine wn_ialoadX (q := i + 1) rfl hL rfl (by show i + 1 < L; omega) (v := xs (i + 1)) rfl ?_
  refine wi_callV1 rfl (by decide) (by decide) rfl (kd_0 ..) rfl rfl rfl (a_part mi ml b hR _ (fun v mi2 ml2 b2 hm => ?_))
  refine wi_aload_n rfl rfl ?_
  refine wi_aload_n rfl rfl ?_
  refine wi_iload_n rfl rfl ?_
  refine wi_iconst (x := 1) rfl rfl ?_
  refine wn_iadd (z := (Int32.ofNat (i + 1))) rfl (add_n (a := i) (b := 1) rfl (rfl : (1 : Int32) = Int32.ofNat 1)) ?_
  refine wn_ialoadX (q := i + 1) rfl hL rfl (by show i + 1 < L; omega) (v := xs (i + 1)) rfl ?_
  refine wi_callV1 rfl (by decide) (by decide) rfl (kd_134 ..) rfl rfl rfl (hm _ (fun mi3 ml3 b3 hR3 => ?_))
  refine wi_icmp_eq rfl (fun _ => ?_) (fun h9 => absurd rfl h9)
  refine wi_iinc (z := (Int32.ofNat (i + 8))) rfl rfl rfl (add_n (a := i) (b := 8) rfl rfl) rfl ?_
  refine wi_goto rfl ?_
  exact hQ mi3 ml3 b3 hR3
set_option maxRecDepth 100000 in
theorem lw_fair {L : Nat} {xs : Nat → Int32} {Q : Option Value → am_M → Prop} {mi : Nat → Nat → Int32} {ml : Nat → Nat → Int64} {b : Bool} {i : Nat} (hL : L ≤ 4096) (hi : i + 8 ≤ L) (hR : R mi ml b) (hQ : ∀ mi3 ml3 b3, R mi3 ml3 b3 → am_wp (L, xs) 30 204 10 [.ref 1000050, .ref 0, .ref 134, .int (Int32.ofNat (i + 8))] [] (am_shT, mrL b3, mi3, ml3) Q) : am_wp (L, xs) 30 204 21 [.ref 1000050, .ref 0, .ref 134, .int (Int32.ofNat (i))] [.int 25] (am_shT, mrL b, mi, ml) Q := by
  refine wi_tsw (t := 705) rfl rfl (by decide) rfl ?_
  refine wi_aload_n rfl rfl ?_
  refine wi_aload_n rfl rfl ?_
  refine wi_iload_n rfl rfl ?_
  refine wi_iconst (x := 1) rfl rfl ?_
  refine wn_iadd (z := (Int32.ofNat (i + 1))) rfl (add_n (a := i) (b := 1) rfl (rfl : (1 : Int32) = Int32.ofNat 1)) ?_
  refine wn_ialoadX (q := i + 1) rfl hL rfl (by show i + 1 < L; omega) (v := xs (i + 1)) rfl ?_
  refine wi_callV1 rfl (by decide) (by decide) rfl (kd_0 ..) rfl rfl rfl (a_fair mi ml b hR _ (fun v mi2 ml2 b2 hm => ?_))
  refine wi_aload_n rfl rfl ?_
  refine wi_aload_n rfl rfl ?_
  refine wi_iload_n rfl rfl ?_
  refine wi_iconst (x := 1) rfl rfl ?_
  refine wn_iadd (z := (Int32.ofNat (i + 1))) rfl (add_n (a := i) (b := 1) rfl (rfl : (1 : Int32) = Int32.ofNat 1)) ?_
  refine wn_ialoadX (q := i + 1) rfl hL rfl (by show i + 1 < L; omega) (v := xs (i + 1)) rfl ?_
  refine wi_callV1 rfl (by decide) (by decide) rfl (kd_134 ..) rfl rfl rfl (hm _ (fun mi3 ml3 b3 hR3 => ?_))
  refine wi_icmp_eq rfl (fun _ => ?_) (fun h9 => absurd rfl h9)
  refine wi_iinc (z := (Int32.ofNat (i + 8))) rfl rfl rfl (add_n (a := i) (b := 8) rfl rfl) rfl ?_
  refine wi_goto rfl ?_
  exact hQ mi3 ml3 b3 hR3
set_option maxRecDepth 100000 in
theorem lw_upper {L : Nat} {xs : Nat → Int32} {Q : Option Value → am_M → Prop} {mi : Nat → Nat → Int32} {ml : Nat → Nat → Int64} {b : Bool} {i : Nat} (hL : L ≤ 4096) (hi : i + 8 ≤ L) (hR : R mi ml b) (hQ : ∀ mi3 ml3 b3, R mi3 ml3 b3 → am_wp (L, xs) 30 204 10 [.ref 1000050, .ref 0, .ref 134, .int (Int32.ofNat (i + 8))] [] (am_shT, mrL b3, mi3, ml3) Q) : am_wp (L, xs) 30 204 21 [.ref 1000050, .ref 0, .ref 134, .int (Int32.ofNat (i))] [.int 26] (am_shT, mrL b, mi, ml) Q := by
  refine wi_tsw (t := 722) rfl rfl (by decide) rfl ?_
  refine wi_aload_n rfl rfl ?_
  refine wi_callV0 rfl (by decide) (by decide) rfl (kd_0 ..) rfl rfl rfl (a_upper mi ml b hR _ (fun v mi2 ml2 b2 hm => ?_))
  refine wi_aload_n rfl rfl ?_
  refine wi_callV0 rfl (by decide) (by decide) rfl (kd_134 ..) rfl rfl rfl (hm _ (fun mi3 ml3 b3 hR3 => ?_))
  refine wi_lcmp rfl ?_
  refine wi_if_eq rfl (fun _ => ?_) (fun h9 => absurd (lg_self v) h9)
  refine wi_iinc (z := (Int32.ofNat (i + 8))) rfl rfl rfl (add_n (a := i) (b := 8) rfl rfl) rfl ?_
  refine wi_goto rfl ?_
  exact hQ mi3 ml3 b3 hR3
set_option maxRecDepth 100000 in
theorem lw_lower {L : Nat} {xs : Nat → Int32} {Q : Option Value → am_M → Prop} {mi : Nat → Nat → Int32} {ml : Nat → Nat → Int64} {b : Bool} {i : Nat} (hL : L ≤ 4096) (hi : i + 8 ≤ L) (hR : R mi ml b) (hQ : ∀ mi3 ml3 b3, R mi3 ml3 b3 → am_wp (L, xs) 30 204 10 [.ref 1000050, .ref 0, .ref 134, .int (Int32.ofNat (i + 8))] [] (am_shT, mrL b3, mi3, ml3) Q) : am_wp (L, xs) 30 204 21 [.ref 1000050, .ref 0, .ref 134, .int (Int32.ofNat (i))] [.int 27] (am_shT, mrL b, mi, ml) Q := by
  refine wi_tsw (t := 730) rfl rfl (by decide) rfl ?_
  refine wi_aload_n rfl rfl ?_
  refine wi_callV0 rfl (by decide) (by decide) rfl (kd_0 ..) rfl rfl rfl (a_lower mi ml b hR _ (fun v mi2 ml2 b2 hm => ?_))
  refine wi_aload_n rfl rfl ?_
  refine wi_callV0 rfl (by decide) (by decide) rfl (kd_134 ..) rfl rfl rfl (hm _ (fun mi3 ml3 b3 hR3 => ?_))
  refine wi_lcmp rfl ?_
  refine wi_if_eq rfl (fun _ => ?_) (fun h9 => absurd (lg_self v) h9)
  refine wi_iinc (z := (Int32.ofNat (i + 8))) rfl rfl rfl (add_n (a := i) (b := 8) rfl rfl) rfl ?_
  refine wi_goto rfl ?_
  exact hQ mi3 ml3 b3 hR3
set_option maxRecDepth 100000 in
theorem lw_28 {L : Nat} {xs : Nat → Int32} {Q : Option Value → am_M → Prop} {mi : Nat → Nat → Int32} {ml : Nat → Nat → Int64} {b : Bool} {i : Nat} (hL : L ≤ 4096) (hi : i + 8 ≤ L) (hR : R mi ml b) (hQ : ∀ mi3 ml3 b3, R mi3 ml3 b3 → am_wp (L, xs) 30 204 10 [.ref 1000050, .ref 0, .ref 134, .int (Int32.ofNat (i + 8))] [] (am_shT, mrL b3, mi3, ml3) Q) : am_wp (L, xs) 30 204 21 [.ref 1000050, .ref 0, .ref 134, .int (Int32.ofNat (i))] [.int 28] (am_shT, mrL b, mi, ml) Q := by
  refine wi_tswD rfl rfl (by decide) ?_
  refine wi_iinc (z := (Int32.ofNat (i + 8))) rfl rfl rfl (add_n (a := i) (b := 8) rfl rfl) rfl ?_
  refine wi_goto rfl ?_
  exact hQ mi ml b hR
set_option maxRecDepth 100000 in
theorem lw_29 {L : Nat} {xs : Nat → Int32} {Q : Option Value → am_M → Prop} {mi : Nat → Nat → Int32} {ml : Nat → Nat → Int64} {b : Bool} {i : Nat} (hL : L ≤ 4096) (hi : i + 8 ≤ L) (hR : R mi ml b) (hQ : ∀ mi3 ml3 b3, R mi3 ml3 b3 → am_wp (L, xs) 30 204 10 [.ref 1000050, .ref 0, .ref 134, .int (Int32.ofNat (i + 8))] [] (am_shT, mrL b3, mi3, ml3) Q) : am_wp (L, xs) 30 204 21 [.ref 1000050, .ref 0, .ref 134, .int (Int32.ofNat (i))] [.int 29] (am_shT, mrL b, mi, ml) Q := by
  refine wi_tswD rfl rfl (by decide) ?_
  refine wi_iinc (z := (Int32.ofNat (i + 8))) rfl rfl rfl (add_n (a := i) (b := 8) rfl rfl) rfl ?_
  refine wi_goto rfl ?_
  exact hQ mi ml b hR
set_option maxRecDepth 100000 in
theorem lw_30 {L : Nat} {xs : Nat → Int32} {Q : Option Value → am_M → Prop} {mi : Nat → Nat → Int32} {ml : Nat → Nat → Int64} {b : Bool} {i : Nat} (hL : L ≤ 4096) (hi : i + 8 ≤ L) (hR : R mi ml b) (hQ : ∀ mi3 ml3 b3, R mi3 ml3 b3 → am_wp (L, xs) 30 204 10 [.ref 1000050, .ref 0, .ref 134, .int (Int32.ofNat (i + 8))] [] (am_shT, mrL b3, mi3, ml3) Q) : am_wp (L, xs) 30 204 21 [.ref 1000050, .ref 0, .ref 134, .int (Int32.ofNat (i))] [.int 30] (am_shT, mrL b, mi, ml) Q := by
  refine wi_tswD rfl rfl (by decide) ?_
  refine wi_iinc (z := (Int32.ofNat (i + 8))) rfl rfl rfl (add_n (a := i) (b := 8) rfl rfl) rfl ?_
  refine wi_goto rfl ?_
  exact hQ mi ml b hR
set_option maxRecDepth 100000 in
theorem lw_31 {L : Nat} {xs : Nat → Int32} {Q : Option Value → am_M → Prop} {mi : Nat → Nat → Int32} {ml : Nat → Nat → Int64} {b : Bool} {i : Nat} (hL : L ≤ 4096) (hi : i + 8 ≤ L) (hR : R mi ml b) (hQ : ∀ mi3 ml3 b3, R mi3 ml3 b3 → am_wp (L, xs) 30 204 10 [.ref 1000050, .ref 0, .ref 134, .int (Int32.ofNat (i + 8))] [] (am_shT, mrL b3, mi3, ml3) Q) : am_wp (L, xs) 30 204 21 [.ref 1000050, .ref 0, .ref 134, .int (Int32.ofNat (i))] [.int 31] (am_shT, mrL b, mi, ml) Q := by
  refine wi_tswD rfl rfl (by decide) ?_
  refine wi_iinc (z := (Int32.ofNat (i + 8))) rfl rfl rfl (add_n (a := i) (b := 8) rfl rfl) rfl ?_
  refine wi_goto rfl ?_
  exact hQ mi ml b hR
set_option maxRecDepth 100000 in
theorem lw_end {L : Nat} {xs : Nat → Int32} {mi : Nat → Nat → Int32} {ml : Nat → Nat → Int64} {b : Bool} {i : Nat} (hL : L ≤ 4096) (hi2 : i ≤ 8192) (hi : L < i + 8) : am_wp (L, xs) 30 204 10 [.ref 1000050, .ref 0, .ref 134, .int (Int32.ofNat (i))] [] (am_shT, mrL b, mi, ml) (fun v M' => v = some (.int 1) ∧ M'.1.length ≤ 600000 ∧ am_sz M' ≤ 7302250) := by
  refine wi_iload_n rfl rfl ?_
  refine wi_aload_n rfl rfl ?_
  refine wi_arraylength (x := Int32.ofNat L) rfl hL rfl ?_
  refine wi_bipush (x := 8) rfl rfl ?_
  refine wi_isub rfl ?_
  refine wi_icmp_gt rfl (fun _ => ?_) (fun h9 => absurd ((l8 hL (by omega)).mpr (by omega)) h9)
  refine wi_iconst (x := 1) rfl rfl ?_
  refine wi_iret rfl (by decide) ?_
  exact ⟨rfl, by show am_shT.length ≤ 600000; decide, by show (am_shT.map Prod.snd).sum ≤ 7302250; decide +kernel⟩
set_option maxRecDepth 100000 in
theorem lw_loop {L : Nat} {xs : Nat → Int32} (hL : L ≤ 4096) : ∀ z i (mi : Nat → Nat → Int32) (ml : Nat → Nat → Int64) (b : Bool), L < i + z → i ≤ L + 8 → R mi ml b → am_wp (L, xs) 30 204 10 [.ref 1000050, .ref 0, .ref 134, .int (Int32.ofNat (i))] [] (am_shT, mrL b, mi, ml) (fun v M' => v = some (.int 1) ∧ M'.1.length ≤ 600000 ∧ am_sz M' ≤ 7302250) := by
  intro z
  induction z with
  | zero =>
    intro i mi ml b hz hi2 hR
    exact lw_end hL (by omega) (by omega)
  | succ z ih =>
    intro i mi ml b hz hi2 hR
    by_cases hi : i + 8 ≤ L
    rotate_left
    · exact lw_end hL (by omega) (by omega)
    · have hQ : ∀ mi3 ml3 b3, R mi3 ml3 b3 → am_wp (L, xs) 30 204 10 [.ref 1000050, .ref 0, .ref 134, .int (Int32.ofNat (i + 8))] [] (am_shT, mrL b3, mi3, ml3) (fun v M' => v = some (.int 1) ∧ M'.1.length ≤ 600000 ∧ am_sz M' ≤ 7302250) := fun mi3 ml3 b3 hR3 => ih (i + 8) mi3 ml3 b3 (by omega) (by omega) hR3
      refine wi_iload_n rfl rfl ?_
      refine wi_aload_n rfl rfl ?_
      refine wi_arraylength (x := Int32.ofNat L) rfl hL rfl ?_
      refine wi_bipush (x := 8) rfl rfl ?_
      refine wi_isub rfl ?_
      refine wi_icmp_gt rfl (fun h9 => absurd ((l8 hL (by omega)).mp h9) (by omega)) (fun _ => ?_)
      refine wi_aload_n rfl rfl ?_
      refine wi_iload_n rfl rfl ?_
      refine wn_ialoadX (q := i) rfl hL rfl (by show i < L; omega) (v := xs (i)) rfl ?_
      refine wi_bipush (x := 31) rfl rfl ?_
      refine wi_iand rfl ?_
      obtain ⟨c, hc, hcs⟩ := pk_andE (xs i) (m := 31) 5 (by decide)
      have hc : c < 32 := hc
      have hcs : xs i &&& 31 = Int32.ofNat c := hcs
      rw [show ((xs (i)) &&& (31 : Int32)) = Int32.ofNat c from hcs]
      clear hcs
      rcases c with _ | _ | _ | _ | _ | _ | _ | _ | _ | _ | _ | _ | _ | _ | _ | _ | _ | _ | _ | _ | _ | _ | _ | _ | _ | _ | _ | _ | _ | _ | _ | _ | c
      · exact lw_status hL hi hR hQ
      · exact lw_strip hL hi hR hQ
      · exact lw_set hL hi hR hQ
      · exact lw_told hL hi hR hQ
      · exact lw_weather hL hi hR hQ
      · exact lw_work hL hi hR hQ
      · exact lw_play hL hi hR hQ
      · exact lw_step hL hi hR hQ
      · exact lw_day hL hi hR hQ
      · exact lw_measure hL hi hR hQ
      · exact lw_reads hL hi hR hQ
      · exact lw_plan hL hi hR hQ
      · exact lw_planned hL hi hR hQ
      · exact lw_feed hL hi hR hQ
      · exact lw_rules hL hi hR hQ
      · exact lw_fault hL hi hR hQ
      · exact lw_rate hL hi hR hQ
      · exact lw_when hL hi hR hQ
      · exact lw_match hL hi hR hQ
      · exact lw_worth hL hi hR hQ
      · exact lw_rests hL hi hR hQ
      · exact lw_give hL hi hR hQ
      · exact lw_given hL hi hR hQ
      · exact lw_mark hL hi hR hQ
      · exact lw_part hL hi hR hQ
      · exact lw_fair hL hi hR hQ
      · exact lw_upper hL hi hR hQ
      · exact lw_lower hL hi hR hQ
      · exact lw_28 hL hi hR hQ
      · exact lw_29 hL hi hR hQ
      · exact lw_30 hL hi hR hQ
      · exact lw_31 hL hi hR hQ
      · omega
