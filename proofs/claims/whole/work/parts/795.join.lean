/-! ===== insert on both sides ===== -/
theorem w_ins_7 (w : W_) (f p : Nat) (k n : Int) (g : Nat) : (w_ins w f p k n).2 7 g = if g = f then w.2 7 f + 1 else w.2 7 g := by
  show (if (7 : Nat) = 7 ∧ g = f then w.2 7 f + 1 else if (7 : Nat) = 5 ∧ g = 60 * f + p then n else if (7 : Nat) = 3 ∧ g = 60 * f + p then k else if ((7 : Nat) = 3 ∨ (7 : Nat) = 5) ∧ 60 * f + p < g ∧ g ≤ 60 * f + (w.2 7 f).toNat then w.2 7 (g - 1) else w.2 7 g) = _
  by_cases c : g = f
  · rw [if_pos ⟨rfl, c⟩, if_pos c]
  · rw [if_neg (fun q => c q.2), if_neg (by omega), if_neg (by omega), if_neg (by omega), if_neg c]
theorem w_ins_35 (w : W_) (f p : Nat) (k n : Int) {b : Nat} (hb : b = 3 ∨ b = 5) (x : Nat) : (w_ins w f p k n).2 b x = if x = 60 * f + p then (if b = 5 then n else k) else if 60 * f + p < x ∧ x ≤ 60 * f + (w.2 7 f).toNat then w.2 b (x - 1) else w.2 b x := by
  show (if b = 7 ∧ x = f then w.2 7 f + 1 else if b = 5 ∧ x = 60 * f + p then n else if b = 3 ∧ x = 60 * f + p then k else if (b = 3 ∨ b = 5) ∧ 60 * f + p < x ∧ x ≤ 60 * f + (w.2 7 f).toNat then w.2 b (x - 1) else w.2 b x) = _
  rw [if_neg (by omega)]
  by_cases c : x = 60 * f + p
  · rw [if_pos c]
    by_cases d : b = 5
    · rw [if_pos ⟨d, c⟩, if_pos d]
    · rw [if_neg (fun q => d q.1), if_pos ⟨by omega, c⟩, if_neg d]
  · rw [if_neg (fun q => c q.2), if_neg (fun q => c q.2), if_neg c]
    by_cases e : 60 * f + p < x ∧ x ≤ 60 * f + (w.2 7 f).toNat
    · rw [if_pos ⟨hb, e⟩, if_pos e]
    · rw [if_neg (fun q => e q.2), if_neg e]
theorem q_ins_76 (w : W_) (f p : Nat) (k n : Int) (g : Nat) : (q_ins w f p k n).2 76 g = if g = f then w.2 76 f + 1 else w.2 76 g := by
  show (if (76 : Nat) = 76 ∧ g = f then w.2 76 f + 1 else if (76 : Nat) = 75 ∧ g = 60 * f + p then n else if (76 : Nat) = 74 ∧ g = 60 * f + p then k else if ((76 : Nat) = 74 ∨ (76 : Nat) = 75) ∧ 60 * f + p < g ∧ g ≤ 60 * f + (w.2 76 f).toNat then w.2 76 (g - 1) else w.2 76 g) = _
  by_cases c : g = f
  · rw [if_pos ⟨rfl, c⟩, if_pos c]
  · rw [if_neg (fun q => c q.2), if_neg (by omega), if_neg (by omega), if_neg (by omega), if_neg c]
theorem q_ins_45 (w : W_) (f p : Nat) (k n : Int) {b : Nat} (hb : b = 74 ∨ b = 75) (x : Nat) : (q_ins w f p k n).2 b x = if x = 60 * f + p then (if b = 75 then n else k) else if 60 * f + p < x ∧ x ≤ 60 * f + (w.2 76 f).toNat then w.2 b (x - 1) else w.2 b x := by
  show (if b = 76 ∧ x = f then w.2 76 f + 1 else if b = 75 ∧ x = 60 * f + p then n else if b = 74 ∧ x = 60 * f + p then k else if (b = 74 ∨ b = 75) ∧ 60 * f + p < x ∧ x ≤ 60 * f + (w.2 76 f).toNat then w.2 b (x - 1) else w.2 b x) = _
  rw [if_neg (by omega)]
  by_cases c : x = 60 * f + p
  · rw [if_pos c]
    by_cases d : b = 75
    · rw [if_pos ⟨d, c⟩, if_pos d]
    · rw [if_neg (fun q => d q.1), if_pos ⟨by omega, c⟩, if_neg d]
  · rw [if_neg (fun q => c q.2), if_neg (fun q => c q.2), if_neg c]
    by_cases e : 60 * f + p < x ∧ x ≤ 60 * f + (w.2 76 f).toNat
    · rw [if_pos ⟨hb, e⟩, if_pos e]
    · rw [if_neg (fun q => e q.2), if_neg e]
/-- what both sides hold of the files stays alike -/
theorem ins_same {w v : W_} {f p : Nat} {k n : Int} (hf : f < 3) (hz : ∀ g : Nat, g < 3 → w.2 7 g = v.2 76 g ∧ 0 ≤ w.2 7 g ∧ w.2 7 g ≤ 60)
    {b c : Nat} (hb : b = 3 ∧ c = 74 ∨ b = 5 ∧ c = 75) (R : Int → Prop) (hk : R (if b = 5 then n else k)) (tk : ∀ g q : Nat, g < 3 → (q : Int) < w.2 7 g → w.2 b (60 * g + q) = v.2 c (60 * g + q) ∧ R (w.2 b (60 * g + q))) (hp : (p : Int) ≤ w.2 7 f) (hl : w.2 7 f < 60) :
    ∀ g q : Nat, g < 3 → (q : Int) < (w_ins w f p k n).2 7 g → (w_ins w f p k n).2 b (60 * g + q) = (q_ins v f p k n).2 c (60 * g + q) ∧ R ((w_ins w f p k n).2 b (60 * g + q)) := by
  intro g q hg hq
  have zg := hz g hg
  have zf := hz f hf
  rw [w_ins_7] at hq
  rw [w_ins_35 w f p k n (by omega), q_ins_45 v f p k n (by omega), ← zf.1]
  have eb : (if b = 5 then n else k) = if c = 75 then n else k := by
    rcases hb with ⟨rfl, rfl⟩ | ⟨rfl, rfl⟩ <;> rfl
  by_cases c1 : 60 * g + q = 60 * f + p
  · rw [if_pos c1, if_pos c1, ← eb]
    exact ⟨rfl, hk⟩
  · rw [if_neg c1, if_neg c1]
    by_cases e : g = f
    · subst e
      rw [if_pos rfl] at hq
      by_cases c2 : 60 * g + p < 60 * g + q ∧ 60 * g + q ≤ 60 * g + (w.2 7 g).toNat
      · rw [if_pos c2, if_pos c2]
        have h := tk g (q - 1) hg (by omega)
        have e1 : 60 * g + q - 1 = 60 * g + (q - 1) := by omega
        rw [e1]
        exact h
      · rw [if_neg c2, if_neg c2]
        exact tk g q hg (by omega)
    · rw [if_neg e] at hq
      have c2 : ¬ (60 * f + p < 60 * g + q ∧ 60 * g + q ≤ 60 * f + (w.2 7 f).toNat) := by omega
      rw [if_neg c2, if_neg c2]
      exact tk g q hg hq
theorem w_rem_7 (w : W_) (f p : Nat) (g : Nat) : (w_rem w f p).2 7 g = if g = f then w.2 7 f - 1 else w.2 7 g := by
  show (if (7 : Nat) = 7 ∧ g = f then w.2 7 f - 1 else if ((7 : Nat) = 3 ∨ (7 : Nat) = 5) ∧ 60 * f + p ≤ g ∧ g < 60 * f + (w.2 7 f).toNat - 1 then w.2 7 (g + 1) else w.2 7 g) = _
  by_cases c : g = f
  · rw [if_pos ⟨rfl, c⟩, if_pos c]
  · rw [if_neg (fun q => c q.2), if_neg (by omega), if_neg c]
theorem w_rem_35 (w : W_) (f p : Nat) {b : Nat} (hb : b = 3 ∨ b = 5) (x : Nat) : (w_rem w f p).2 b x = if 60 * f + p ≤ x ∧ x < 60 * f + (w.2 7 f).toNat - 1 then w.2 b (x + 1) else w.2 b x := by
  show (if b = 7 ∧ x = f then w.2 7 f - 1 else if (b = 3 ∨ b = 5) ∧ 60 * f + p ≤ x ∧ x < 60 * f + (w.2 7 f).toNat - 1 then w.2 b (x + 1) else w.2 b x) = _
  rw [if_neg (by omega)]
  by_cases e : 60 * f + p ≤ x ∧ x < 60 * f + (w.2 7 f).toNat - 1
  · rw [if_pos ⟨hb, e⟩, if_pos e]
  · rw [if_neg (fun q => e q.2), if_neg e]
theorem q_rem_76 (w : W_) (f p : Nat) (g : Nat) : (q_rem w f p).2 76 g = if g = f then w.2 76 f - 1 else w.2 76 g := by
  show (if (76 : Nat) = 76 ∧ g = f then w.2 76 f - 1 else if ((76 : Nat) = 74 ∨ (76 : Nat) = 75) ∧ 60 * f + p ≤ g ∧ g < 60 * f + (w.2 76 f).toNat - 1 then w.2 76 (g + 1) else w.2 76 g) = _
  by_cases c : g = f
  · rw [if_pos ⟨rfl, c⟩, if_pos c]
  · rw [if_neg (fun q => c q.2), if_neg (by omega), if_neg c]
theorem q_rem_45 (w : W_) (f p : Nat) {b : Nat} (hb : b = 74 ∨ b = 75) (x : Nat) : (q_rem w f p).2 b x = if 60 * f + p ≤ x ∧ x < 60 * f + (w.2 76 f).toNat - 1 then w.2 b (x + 1) else w.2 b x := by
  show (if b = 76 ∧ x = f then w.2 76 f - 1 else if (b = 74 ∨ b = 75) ∧ 60 * f + p ≤ x ∧ x < 60 * f + (w.2 76 f).toNat - 1 then w.2 b (x + 1) else w.2 b x) = _
  rw [if_neg (by omega)]
  by_cases e : 60 * f + p ≤ x ∧ x < 60 * f + (w.2 76 f).toNat - 1
  · rw [if_pos ⟨hb, e⟩, if_pos e]
  · rw [if_neg (fun q => e q.2), if_neg e]
theorem rem_same {w v : W_} {f p : Nat} (hf : f < 3) (hz : ∀ g : Nat, g < 3 → w.2 7 g = v.2 76 g ∧ 0 ≤ w.2 7 g ∧ w.2 7 g ≤ 60)
    {b c : Nat} (hb : b = 3 ∧ c = 74 ∨ b = 5 ∧ c = 75) (R : Int → Prop) (tk : ∀ g q : Nat, g < 3 → (q : Int) < w.2 7 g → w.2 b (60 * g + q) = v.2 c (60 * g + q) ∧ R (w.2 b (60 * g + q))) (hp : (p : Int) < w.2 7 f) :
    ∀ g q : Nat, g < 3 → (q : Int) < (w_rem w f p).2 7 g → (w_rem w f p).2 b (60 * g + q) = (q_rem v f p).2 c (60 * g + q) ∧ R ((w_rem w f p).2 b (60 * g + q)) := by
  intro g q hg hq
  have zg := hz g hg
  have zf := hz f hf
  rw [w_rem_7] at hq
  rw [w_rem_35 w f p (by omega), q_rem_45 v f p (by omega), ← zf.1]
  by_cases e : g = f
  · subst e
    rw [if_pos rfl] at hq
    by_cases c2 : 60 * g + p ≤ 60 * g + q ∧ 60 * g + q < 60 * g + (w.2 7 g).toNat - 1
    · rw [if_pos c2, if_pos c2]
      have h := tk g (q + 1) hg (by omega)
      have e1 : 60 * g + q + 1 = 60 * g + (q + 1) := by omega
      rw [e1]
      exact h
    · rw [if_neg c2, if_neg c2]
      exact tk g q hg (by omega)
  · rw [if_neg e] at hq
    have c2 : ¬ (60 * f + p ≤ 60 * g + q ∧ 60 * g + q < 60 * f + (w.2 7 f).toNat - 1) := by omega
    rw [if_neg c2, if_neg c2]
    exact tk g q hg hq
