/-! ===== rules: what a text says ===== -/
def isB (c : Nat) : Bool := c == 10 || c == 32
def isL (c : Nat) : Bool := decide (97 ≤ c) && decide (c ≤ 122)
def isD (c : Nat) : Bool := decide (48 ≤ c) && decide (c ≤ 57)
def isG (c : Nat) : Bool := c == 60 || c == 62 || c == 61 || c == 59
def rnF (T : Nat → Nat) (pr : Nat → Bool) : Nat → Nat → Nat
  | 0, p => p
  | f + 1, p => if pr (T p) = true then rnF T pr f (p + 1) else p
def rn (T : Nat → Nat) (N : Nat) (pr : Nat → Bool) (p : Nat) : Nat := rnF T pr (N - p) p
section RN
variable {T : Nat → Nat} {N : Nat} {pr : Nat → Bool}
theorem rn_end {p : Nat} (h : N ≤ p) : rn T N pr p = p := by
  unfold rn
  rw [show N - p = 0 by omega]
  rfl
theorem rn_go {p : Nat} (h : p < N) (hp : pr (T p) = true) : rn T N pr p = rn T N pr (p + 1) := by
  unfold rn
  rw [show N - p = (N - (p + 1)) + 1 by omega]
  exact if_pos hp
theorem rn_no {p : Nat} (h : p < N) (hp : pr (T p) = false) : rn T N pr p = p := by
  unfold rn
  rw [show N - p = (N - (p + 1)) + 1 by omega]
  exact if_neg (by rw [hp]; decide)
theorem rn_bd : ∀ k p, p + k = N → p ≤ rn T N pr p ∧ rn T N pr p ≤ N ∧ (rn T N pr p < N → pr (T (rn T N pr p)) = false) ∧ ∀ j, p ≤ j → j < rn T N pr p → pr (T j) = true := by
  intro k
  induction k with
  | zero =>
    intro p hp
    rw [rn_end (by omega)]
    exact ⟨by omega, by omega, fun h => by omega, fun j h1 h2 => by omega⟩
  | succ k ih =>
    intro p hp
    cases h : pr (T p)
    · rw [rn_no (by omega) h]
      exact ⟨by omega, by omega, fun _ => h, fun j h1 h2 => by omega⟩
    · rw [rn_go (by omega) h]
      obtain ⟨h1, h2, h3, h4⟩ := ih (p + 1) (by omega)
      refine ⟨by omega, h2, h3, fun j h5 h6 => ?_⟩
      rcases Nat.lt_or_ge p j with h7 | h7
      · exact h4 j (by omega) h6
      · rw [show j = p by omega]; exact h
theorem rn_b {p : Nat} (h : p ≤ N) : p ≤ rn T N pr p ∧ rn T N pr p ≤ N ∧ (rn T N pr p < N → pr (T (rn T N pr p)) = false) ∧ ∀ j, p ≤ j → j < rn T N pr p → pr (T j) = true := rn_bd (N - p) p (by omega)
end RN
def kdT (T : Nat → Nat) (N s : Nat) : Nat := if isL (T s) = true then 1 else if isD (T s) = true then (if rn T N isD s - s ≤ 3 then 2 else 0) else if isG (T s) = true then T s else 0
def enT (T : Nat → Nat) (N s : Nat) : Nat := if isL (T s) = true then rn T N isL s else if isD (T s) = true then rn T N isD s else s + 1
theorem en_b {T : Nat → Nat} {N s : Nat} (h : s < N) : s < enT T N s ∧ enT T N s ≤ N := by
  unfold enT
  by_cases h1 : isL (T s) = true
  · rw [if_pos h1, rn_go h h1]
    have := rn_b (T := T) (N := N) (pr := isL) (p := s + 1) (by omega)
    omega
  · rw [if_neg h1]
    by_cases h2 : isD (T s) = true
    · rw [if_pos h2, rn_go h h2]
      have := rn_b (T := T) (N := N) (pr := isD) (p := s + 1) (by omega)
      omega
    · rw [if_neg h2]
      omega
def txL (T : Nat → Nat) (s n : Nat) : List Nat := (List.range n).map (fun i => T (s + i))
theorem tx_len {T : Nat → Nat} {s n : Nat} : (txL T s n).length = n := by
  unfold txL
  rw [List.length_map, List.length_range]
theorem tx_get {T : Nat → Nat} {s n i : Nat} (h : i < n) : (txL T s n).getD i 0 = T (s + i) := map_getD (f := fun i => T (s + i)) h
theorem list_eq {l l' : List Nat} (h : l.length = l'.length) (h2 : ∀ i, i < l.length → l.getD i 0 = l'.getD i 0) : l = l' := by
  refine List.ext_getElem h (fun i h3 h4 => ?_)
  have h5 := h2 i h3
  rw [getD_el h3, getD_el h4] at h5
  exact h5
theorem tx_iff {T : Nat → Nat} {s n : Nat} {l : List Nat} : txL T s n = l ↔ (n = l.length ∧ ∀ i, i < n → T (s + i) = l.getD i 0) := by
  refine ⟨fun h => ?_, fun h => ?_⟩
  · subst h
    exact ⟨tx_len.symm, fun i hi => (tx_get hi).symm⟩
  · refine list_eq (by rw [tx_len]; exact h.1) (fun i hi => ?_)
    rw [tx_len] at hi
    rw [tx_get hi]
    exact h.2 i hi
def wds (w : Nat) : List Nat := ([[102, 105, 114, 115, 116], [115, 101, 99, 111, 110, 100], [116, 104, 105, 114, 100], [103, 114, 97, 115, 115], [104, 97, 114, 100], [119, 101, 97, 114], [98, 111, 117, 110, 99, 101], [114, 97, 105, 110]] : List (List Nat)).getD w []
def wWhen : List Nat := [119, 104, 101, 110]
def wAnd : List Nat := [97, 110, 100]
def whF (t : List Nat) : Nat → Nat → Option Nat
  | 0, _ => none
  | k + 1, w => if t = wds w then some w else whF t k (w + 1)
def nmR (T : Nat → Nat) (s : Nat) : Nat → Nat
  | 0 => 0
  | k + 1 => nmR T s k * 10 + (T (s + k) - 48)
/-- a state of the reading: what is awaited, the place, how many rules, what is asked, the sign; where names begin, their lengths, how many tests; what, sign and number of each test -/
abbrev rgS : Type := Nat × Nat × Nat × Nat × Nat × (Nat → Nat) × (Nat → Nat) × (Nat → Nat) × (Nat → Nat → Nat) × (Nat → Nat → Nat) × (Nat → Nat → Nat)
def rgS.aw (S : rgS) : Nat := S.1
def rgS.p (S : rgS) : Nat := S.2.1
def rgS.r (S : rgS) : Nat := S.2.2.1
def rgS.tw (S : rgS) : Nat := S.2.2.2.1
def rgS.ts (S : rgS) : Nat := S.2.2.2.2.1
def rgS.ns (S : rgS) : (Nat → Nat) := S.2.2.2.2.2.1
def rgS.nl (S : rgS) : (Nat → Nat) := S.2.2.2.2.2.2.1
def rgS.tc (S : rgS) : (Nat → Nat) := S.2.2.2.2.2.2.2.1
def rgS.fa (S : rgS) : (Nat → Nat → Nat) := S.2.2.2.2.2.2.2.2.1
def rgS.fs (S : rgS) : (Nat → Nat → Nat) := S.2.2.2.2.2.2.2.2.2.1
def rgS.fn (S : rgS) : (Nat → Nat → Nat) := S.2.2.2.2.2.2.2.2.2.2
def up1 (f : Nat → Nat) (k v : Nat) : Nat → Nat := fun i => if i = k then v else f i
def upp (f : Nat → Nat → Nat) (a k v : Nat) : Nat → Nat → Nat := fun i j => if i = a ∧ j = k then v else f i j
def anyB (f : Nat → Bool) : Nat → Bool
  | 0 => false
  | i + 1 => anyB f i || f i
def knw (T : Nat → Nat) (S : rgS) (s n : Nat) : Nat → Bool := fun i => decide (txL T (S.ns i) (S.nl i) = txL T s n)
def tk0 (T : Nat → Nat) (S : rgS) (s e kd : Nat) : Nat ⊕ rgS := if ¬ kd = 1 ∨ 8 < e - s then .inl 2 else if 8 ≤ S.r then .inl 3 else if anyB (knw T S s (e - s)) S.r = true then .inl 4 else .inr ⟨1, e, S.r + 1, S.tw, S.ts, up1 S.ns S.r s, up1 S.nl S.r (e - s), up1 S.tc S.r 0, S.fa, S.fs, S.fn⟩
def tk1 (T : Nat → Nat) (S : rgS) (s e kd : Nat) : Nat ⊕ rgS := if kd = 1 ∧ txL T s (e - s) = wWhen then .inr ⟨2, e, S.r, S.tw, S.ts, S.ns, S.nl, S.tc, S.fa, S.fs, S.fn⟩ else .inl 2
def tk2 (T : Nat → Nat) (S : rgS) (s e kd : Nat) : Nat ⊕ rgS := match (if kd = 1 then whF (txL T s (e - s)) 8 0 else none) with
  | none => .inl 2
  | some w => if 6 ≤ S.tc (S.r - 1) then .inl 3 else .inr ⟨3, e, S.r, w, S.ts, S.ns, S.nl, S.tc, S.fa, S.fs, S.fn⟩
def tk3 (S : rgS) (e kd : Nat) : Nat ⊕ rgS := if kd = 60 ∨ kd = 62 ∨ kd = 61 then .inr ⟨4, e, S.r, S.tw, kd, S.ns, S.nl, S.tc, S.fa, S.fs, S.fn⟩ else .inl 2
def tk4 (T : Nat → Nat) (S : rgS) (s e kd : Nat) : Nat ⊕ rgS := if kd = 2 then .inr ⟨5, e, S.r, S.tw, S.ts, S.ns, S.nl, up1 S.tc (S.r - 1) (S.tc (S.r - 1) + 1), upp S.fa (S.r - 1) (S.tc (S.r - 1)) S.tw, upp S.fs (S.r - 1) (S.tc (S.r - 1)) S.ts, upp S.fn (S.r - 1) (S.tc (S.r - 1)) (nmR T s (e - s))⟩ else .inl 2
def tk5 (T : Nat → Nat) (S : rgS) (s e kd : Nat) : Nat ⊕ rgS := if kd = 59 then .inr ⟨0, e, S.r, S.tw, S.ts, S.ns, S.nl, S.tc, S.fa, S.fs, S.fn⟩ else if kd = 1 ∧ txL T s (e - s) = wAnd then .inr ⟨2, e, S.r, S.tw, S.ts, S.ns, S.nl, S.tc, S.fa, S.fs, S.fn⟩ else .inl 2
def tkS (T : Nat → Nat) (S : rgS) (s e kd : Nat) : Nat ⊕ rgS := if kd = 0 then .inl 1 else if S.aw = 0 then tk0 T S s e kd else if S.aw = 1 then tk1 T S s e kd else if S.aw = 2 then tk2 T S s e kd else if S.aw = 3 then tk3 S e kd else if S.aw = 4 then tk4 T S s e kd else tk5 T S s e kd
def runC (T : Nat → Nat) (N : Nat) (P : rgS → Nat → Nat → rgS → Prop) : Prop := (∀ S : rgS, N ≤ rn T N isB S.p → S.aw = 0 → P S 0 0 S) ∧ (∀ S : rgS, N ≤ rn T N isB S.p → S.aw ≠ 0 → P S 2 N S) ∧ (∀ (S : rgS) (k : Nat), rn T N isB S.p < N → tkS T S (rn T N isB S.p) (enT T N (rn T N isB S.p)) (kdT T N (rn T N isB S.p)) = .inl k → P S k (rn T N isB S.p) S) ∧ (∀ (S S' E : rgS) (k q : Nat), rn T N isB S.p < N → tkS T S (rn T N isB S.p) (enT T N (rn T N isB S.p)) (kdT T N (rn T N isB S.p)) = .inr S' → P S' k q E → P S k q E)
/-- the reading from a state on ends so -/
def runS (T : Nat → Nat) (N : Nat) (S : rgS) (fk fp : Nat) (E : rgS) : Prop := ∀ P, runC T N P → P S fk fp E
theorem runS.fin {T : Nat → Nat} {N : Nat} (S : rgS) (h1 : N ≤ rn T N isB S.p) (h2 : S.aw = 0) : runS T N S 0 0 S := fun _ hP => hP.1 S h1 h2
theorem runS.eba {T : Nat → Nat} {N : Nat} (S : rgS) (h1 : N ≤ rn T N isB S.p) (h2 : S.aw ≠ 0) : runS T N S 2 N S := fun _ hP => hP.2.1 S h1 h2
theorem runS.bad {T : Nat → Nat} {N : Nat} (S : rgS) (k : Nat) (h1 : rn T N isB S.p < N) (h2 : tkS T S (rn T N isB S.p) (enT T N (rn T N isB S.p)) (kdT T N (rn T N isB S.p)) = .inl k) : runS T N S k (rn T N isB S.p) S := fun _ hP => hP.2.2.1 S k h1 h2
theorem runS.stp {T : Nat → Nat} {N : Nat} (S S' E : rgS) (k q : Nat) (h1 : rn T N isB S.p < N) (h2 : tkS T S (rn T N isB S.p) (enT T N (rn T N isB S.p)) (kdT T N (rn T N isB S.p)) = .inr S') (h3 : runS T N S' k q E) : runS T N S k q E := fun P hP => hP.2.2.2 S S' E k q h1 h2 (h3 P hP)
theorem run_cs {T : Nat → Nat} {N : Nat} {S E : rgS} {fk fp : Nat} (h : runS T N S fk fp E) : (N ≤ rn T N isB S.p ∧ S.aw = 0 ∧ fk = 0 ∧ fp = 0 ∧ E = S) ∨ (N ≤ rn T N isB S.p ∧ S.aw ≠ 0 ∧ fk = 2 ∧ fp = N ∧ E = S) ∨ (rn T N isB S.p < N ∧ tkS T S (rn T N isB S.p) (enT T N (rn T N isB S.p)) (kdT T N (rn T N isB S.p)) = .inl fk ∧ fp = rn T N isB S.p ∧ E = S) ∨ (rn T N isB S.p < N ∧ ∃ S' : rgS, tkS T S (rn T N isB S.p) (enT T N (rn T N isB S.p)) (kdT T N (rn T N isB S.p)) = .inr S' ∧ runS T N S' fk fp E) := by
  have h9 := h (fun S fk fp E => runS T N S fk fp E ∧ ((N ≤ rn T N isB S.p ∧ S.aw = 0 ∧ fk = 0 ∧ fp = 0 ∧ E = S) ∨ (N ≤ rn T N isB S.p ∧ S.aw ≠ 0 ∧ fk = 2 ∧ fp = N ∧ E = S) ∨ (rn T N isB S.p < N ∧ tkS T S (rn T N isB S.p) (enT T N (rn T N isB S.p)) (kdT T N (rn T N isB S.p)) = .inl fk ∧ fp = rn T N isB S.p ∧ E = S) ∨ (rn T N isB S.p < N ∧ ∃ S' : rgS, tkS T S (rn T N isB S.p) (enT T N (rn T N isB S.p)) (kdT T N (rn T N isB S.p)) = .inr S' ∧ runS T N S' fk fp E))) ⟨fun S h1 h2 => ⟨runS.fin S h1 h2, Or.inl ⟨h1, h2, rfl, rfl, rfl⟩⟩, fun S h1 h2 => ⟨runS.eba S h1 h2, Or.inr (Or.inl ⟨h1, h2, rfl, rfl, rfl⟩)⟩, fun S k h1 h2 => ⟨runS.bad S k h1 h2, Or.inr (Or.inr (Or.inl ⟨h1, h2, rfl, rfl⟩))⟩, fun S S' E k q h1 h2 h3 => ⟨runS.stp S S' E k q h1 h2 h3.1, Or.inr (Or.inr (Or.inr ⟨h1, S', h2, h3.1⟩))⟩⟩
  exact h9.2
/-- what holds of every state -/
def inS (T : Nat → Nat) (N : Nat) (S : rgS) : Prop := S.p ≤ N ∧ S.r ≤ 8 ∧ S.aw ≤ 5 ∧ (S.aw ≠ 0 → 0 < S.r) ∧ ((S.aw = 3 ∨ S.aw = 4) → S.tw ≤ 7 ∧ S.tc (S.r - 1) < 6) ∧ (S.aw = 4 → S.ts < 256) ∧ ∀ i, i < S.r → S.tc i ≤ 6 ∧ S.ns i + S.nl i ≤ N ∧ S.nl i ≤ 8 ∧ (∀ k, k < S.nl i → isL (T (S.ns i + k)) = true) ∧ ∀ k, k < S.tc i → S.fa i k ≤ 7
theorem kd_b {T : Nat → Nat} {N s : Nat} (hT : T s < 256) : kdT T N s < 256 := by
  unfold kdT
  split
  · omega
  · split
    · split <;> omega
    · split <;> omega
theorem wh_b {t : List Nat} : ∀ k w x, whF t k w = some x → w ≤ x ∧ x < w + k ∧ t = wds x := by
  intro k
  induction k with
  | zero => intro w x h; cases h
  | succ k ih =>
    intro w x h
    have h1 : (if t = wds w then some w else whF t k (w + 1)) = some x := h
    by_cases ht : t = wds w
    · rw [if_pos ht] at h1
      cases h1
      exact ⟨Nat.le_refl _, by omega, ht⟩
    · rw [if_neg ht] at h1
      have := ih (w + 1) x h1
      exact ⟨by omega, by omega, this.2.2⟩
theorem tk_inv {T : Nat → Nat} {N s : Nat} {S S' : rgS} (hT : ∀ k, k < N → T k < 256) (h : inS T N S) (hs : s < N) (ht : tkS T S s (enT T N s) (kdT T N s) = .inr S') : inS T N S' ∧ S'.p = enT T N s := by
  obtain ⟨h1, h2, h3, h4, h5, h6, h7⟩ := h
  have he := en_b (T := T) hs
  have hk := kd_b (T := T) (N := N) (s := s) (hT s hs)
  have hL : kdT T N s = 1 → isL (T s) = true := by
    intro h8
    by_cases h9 : isL (T s) = true
    · exact h9
    · exfalso
      unfold kdT at h8
      rw [if_neg h9] at h8
      by_cases h10 : isD (T s) = true
      · rw [if_pos h10] at h8
        split at h8 <;> omega
      · rw [if_neg h10] at h8
        by_cases h11 : isG (T s) = true
        · rw [if_pos h11] at h8
          rw [h8] at h11
          exact absurd h11 (by decide)
        · rw [if_neg h11] at h8
          omega
  generalize hkd : kdT T N s = kd at ht hk hL
  unfold tkS at ht
  by_cases k0 : kd = 0
  · rw [if_pos k0] at ht; cases ht
  rw [if_neg k0] at ht
  by_cases w0 : S.aw = 0
  · rw [if_pos w0] at ht
    unfold tk0 at ht
    by_cases c1 : ¬ kd = 1 ∨ 8 < enT T N s - s
    · rw [if_pos c1] at ht; cases ht
    rw [if_neg c1] at ht
    by_cases c2 : 8 ≤ S.r
    · rw [if_pos c2] at ht; cases ht
    rw [if_neg c2] at ht
    by_cases c3 : anyB (knw T S s (enT T N s - s)) S.r = true
    · rw [if_pos c3] at ht; cases ht
    rw [if_neg c3] at ht
    cases ht
    have hl := hL (by omega)
    refine ⟨⟨he.2, by show S.r + 1 ≤ 8; omega, by show 1 ≤ 5; omega, fun _ => Nat.succ_pos _, fun h8 => (by rcases h8 with h8 | h8 <;> cases h8), fun h8 => (by cases h8), fun i hi => ?_⟩, rfl⟩
    have hi : i < S.r + 1 := hi
    by_cases hir : i = S.r
    · subst hir
      show up1 S.tc S.r 0 S.r ≤ 6 ∧ up1 S.ns S.r s S.r + up1 S.nl S.r (enT T N s - s) S.r ≤ N ∧ up1 S.nl S.r (enT T N s - s) S.r ≤ 8 ∧ (∀ k, k < up1 S.nl S.r (enT T N s - s) S.r → isL (T (up1 S.ns S.r s S.r + k)) = true) ∧ ∀ k, k < up1 S.tc S.r 0 S.r → _
      unfold up1
      simp only [if_pos]
      refine ⟨by omega, by omega, by omega, fun k hk2 => ?_, fun k hk2 => by omega⟩
      have h12 : enT T N s = rn T N isL s := by unfold enT; rw [if_pos hl]
      have h13 := (rn_b (T := T) (N := N) (pr := isL) (p := s) (by omega)).2.2.2
      rw [h12] at hk2
      exact h13 (s + k) (by omega) (by omega)
    · have h8 := h7 i (by omega)
      show up1 S.tc S.r 0 i ≤ 6 ∧ up1 S.ns S.r s i + up1 S.nl S.r (enT T N s - s) i ≤ N ∧ up1 S.nl S.r (enT T N s - s) i ≤ 8 ∧ (∀ k, k < up1 S.nl S.r (enT T N s - s) i → isL (T (up1 S.ns S.r s i + k)) = true) ∧ ∀ k, k < up1 S.tc S.r 0 i → S.fa i k ≤ 7
      unfold up1
      simp only [if_neg hir]
      exact h8
  rw [if_neg w0] at ht
  have h4' := h4 w0
  by_cases w1 : S.aw = 1
  · rw [if_pos w1] at ht
    unfold tk1 at ht
    split at ht
    · cases ht
      exact ⟨⟨he.2, h2, by show 2 ≤ 5; omega, fun _ => h4', fun h8 => (by rcases h8 with h8 | h8 <;> cases h8), fun h8 => (by cases h8), h7⟩, rfl⟩
    · cases ht
  rw [if_neg w1] at ht
  by_cases w2 : S.aw = 2
  · rw [if_pos w2] at ht
    unfold tk2 at ht
    split at ht
    · cases ht
    · rename_i w hw
      have hwb : w ≤ 7 := by
        split at hw
        · have := wh_b _ _ _ hw; omega
        · cases hw
      split at ht
      · cases ht
      · cases ht
        exact ⟨⟨he.2, h2, by show 3 ≤ 5; omega, fun _ => h4', fun _ => ⟨hwb, by show S.tc (S.r - 1) < 6; omega⟩, fun h8 => (by cases h8), h7⟩, rfl⟩
  rw [if_neg w2] at ht
  by_cases w3 : S.aw = 3
  · rw [if_pos w3] at ht
    unfold tk3 at ht
    split at ht
    · cases ht
      exact ⟨⟨he.2, h2, by show 4 ≤ 5; omega, fun _ => h4', fun _ => h5 (Or.inl w3), fun _ => hk, h7⟩, rfl⟩
    · cases ht
  rw [if_neg w3] at ht
  by_cases w4 : S.aw = 4
  · rw [if_pos w4] at ht
    unfold tk4 at ht
    have h5' := h5 (Or.inr w4)
    split at ht
    · cases ht
      refine ⟨⟨he.2, h2, by show 5 ≤ 5; omega, fun _ => h4', fun h8 => (by rcases h8 with h8 | h8 <;> cases h8), fun h8 => (by cases h8), fun i hi => ?_⟩, rfl⟩
      have h8 := h7 i hi
      by_cases hir : i = S.r - 1
      · show up1 S.tc (S.r - 1) (S.tc (S.r - 1) + 1) i ≤ 6 ∧ _ ∧ _ ∧ _ ∧ ∀ k, k < up1 S.tc (S.r - 1) (S.tc (S.r - 1) + 1) i → upp S.fa (S.r - 1) (S.tc (S.r - 1)) S.tw i k ≤ 7
        unfold up1 upp
        simp only [if_pos hir]
        refine ⟨by omega, h8.2.1, h8.2.2.1, h8.2.2.2.1, fun k hk2 => ?_⟩
        by_cases hkk : k = S.tc (S.r - 1)
        · rw [if_pos ⟨hir, hkk⟩]; exact h5'.1
        · rw [if_neg (fun h9 => hkk h9.2)]
          exact h8.2.2.2.2 k (by rw [hir]; omega)
      · show up1 S.tc (S.r - 1) (S.tc (S.r - 1) + 1) i ≤ 6 ∧ _ ∧ _ ∧ _ ∧ ∀ k, k < up1 S.tc (S.r - 1) (S.tc (S.r - 1) + 1) i → upp S.fa (S.r - 1) (S.tc (S.r - 1)) S.tw i k ≤ 7
        unfold up1 upp
        simp only [if_neg hir]
        refine ⟨h8.1, h8.2.1, h8.2.2.1, h8.2.2.2.1, fun k hk2 => ?_⟩
        rw [if_neg (fun h9 => hir h9.1)]
        exact h8.2.2.2.2 k hk2
    · cases ht
  rw [if_neg w4] at ht
  unfold tk5 at ht
  split at ht
  · cases ht
    exact ⟨⟨he.2, h2, by show 0 ≤ 5; omega, fun _ => h4', fun h8 => (by rcases h8 with h8 | h8 <;> cases h8), fun h8 => (by cases h8), h7⟩, rfl⟩
  · split at ht
    · cases ht
      exact ⟨⟨he.2, h2, by show 2 ≤ 5; omega, fun _ => h4', fun h8 => (by rcases h8 with h8 | h8 <;> cases h8), fun h8 => (by cases h8), h7⟩, rfl⟩
    · cases ht
