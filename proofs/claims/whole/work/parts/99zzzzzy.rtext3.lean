/-! ===== what was gathered: E's state ===== -/
section
variable {C : C_} {sil : Bool} {D : Prop} {qq : Int} {s s1 : S_} {w w0 w1 : W_} {Γ Γ0 Γ1 : rG_} {n g k ft : Nat} {R : Int}
/-- items are joined: what they cost is what the contents cost -/
theorem rGath (H : rRC C sil D qq ft s w Γ) (hg : w.1 73 33 = ((g + k : Nat) : Int)) (M : rMO w Γ (w_f w1 73 33 (w.1 73 33)) Γ1 0 k) (h33 : w1.1 73 33 = (g : Int)) : rRC C sil D qq ft s w1 Γ1 ∧ rPI n s s w Γ w1 Γ1 R g := by
  obtain ⟨X, H', G, ⟨F, A, S⟩, Dd⟩ := M
  have N : ∀ a j, ¬ (a = 73 ∧ (j = 26 ∨ j = 33)) → w1.1 a j = w.1 a j := fun a j q => by
    rw [← F a j (by omega), w_f_ne _ _ _ _ _ _ (by omega)]
  have A' : ∀ b, b < 90 ∨ 97 < b → w1.2 b = w.2 b := fun b q => A b q
  have S' : w1.2 90 = w.2 90 := funext fun p => S p (Nat.zero_le _)
  have X1 : ∀ R, rXT w Γ w1 Γ1 R := fun R => rXT_trans (R := R) X (rXT_same (R := -1) (fun j q => by rw [w_f_ne _ _ _ _ _ _ (by omega)]) (fun _ _ _ => rfl)) (by omega) (by omega)
  have H1 : rHH w1 Γ1 := rHH_same H' (fun j q => by rw [w_f_ne _ _ _ _ _ _ (by omega)]) (fun _ _ _ => rfl)
  have n26 : w1.1 73 26 ≤ w.1 73 26 + k := by
    have Dd : (w_f w1 73 33 (w.1 73 33)).1 73 26 + 3 * ((0 : Nat) : Int) ≤ w.1 73 26 + 3 * ((0 : Nat) : Int) + k := Dd
    rw [w_f_ne _ _ _ _ _ _ (by decide)] at Dd
    omega
  have Hc := H
  obtain ⟨q1, ⟨q2, q2'⟩, q3, q4, -, -, -, ⟨⟨k1, k1', k1''⟩, k2, k3, k4, k5⟩, -⟩ := H
  refine ⟨rRC_mk (qq' := qq) Hc (X1 (-1)) (rOK_m _) H1 (rFR_w (s := s) q2 (N _ _ (by omega)) (N _ _ (by omega)) (A' _ (by omega))) q2' ?_ (rS2_w q4 (N _ _ (by omega)) (N _ _ (by omega)) (N _ _ (by omega)) ⟨rfl, rfl, rfl⟩) (fun j q => N 73 j (by omega)) (fun b q _ _ => A' b (by omega)) ⟨rfl, rfl, rfl, rfl⟩ ⟨⟨?_, k1', k1''⟩, ?_, ?_, ?_, ?_⟩, X1 R, ⟨fun a j q => N a j (by omega), fun b q => A' b (by omega)⟩, fun i _ => by rw [A' 98 (by omega)], ⟨N 73 35 (by omega), fun i _ => by rw [A' 99 (by omega)]⟩, ⟨by rw [N 73 40 (by omega)]; exact Int.le_refl _, Nat.le_refl _, ⟨fun _ => N 73 40 (by omega), fun _ => rfl⟩⟩, by rw [N 73 45 (by omega)]; omega, by rw [N 73 21 (by omega)]; exact Int.le_refl _⟩
  · unfold rS1 at q3 ⊢
    rw [N 73 39 (by omega), N 73 43 (by omega), N 73 15 (by omega), N 73 80 (by omega), N 73 81 (by omega), N 73 79 (by omega)]
    exact q3
  · rw [N 73 21 (by omega), N 73 35 (by omega), S', h33]
    omega
  · rw [N 73 21 (by omega)]; exact k2
  · rw [N 73 17 (by omega)]; exact k3
  · rw [h33, N 73 35 (by omega)]; omega
  · rw [N 73 5 (by omega)]; exact k5
end
