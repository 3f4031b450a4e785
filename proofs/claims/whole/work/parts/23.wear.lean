section
theorem fo_relI {α β : Type} {f : Nat → α → α} {g : Nat → β → β} (R : Nat → α → β → Prop) {n : Nat} (h : ∀ i, i < n → ∀ a b, R i a b → R (i + 1) (f i a) (g i b)) {a : α} {b : β} (h0 : R 0 a b) : R n (fo f n a) (fo g n b) := by
  induction n with
  | zero => exact h0
  | succ n ih => exact h n (by omega) _ _ (ih (fun i hi => h i (by omega)))
def wop (s a b : Int32) : Int32 :=
  if s = 43 then a + b else if s = 45 then a - b else if s = 42 then a * b else if s = 47 then (if b = 0 then 0 else a / b) else if s = 37 then (if b = 0 then 0 else a - a / b * b) else
  if s = 60 then bi (¬ b ≤ a) else if s = 62 then bi (¬ a ≤ b) else if s = 61 then bi (a = b) else if s = 38 then bi (¬ a = 0 ∧ ¬ b = 0) else bi (¬ a = 0 ∨ ¬ b = 0)
variable {hc hm : xH} {d e : Nat} {S M : xSt}
section
variable {K : Int32 → xSt → Prop} {x : Int32}
theorem wt0 (H : K 0 S) : M_Wr_truth hc d 0 S K := m_Wr_truth (by first | exact H | simpa using H)
theorem wt1 (H : K 1 S) : M_Wr_truth hc d 1 S K := m_Wr_truth (by first | exact H | simpa using H)
end
theorem jC_43 {x1 x2 : Int32} {K : Int32 → xSt → Prop} (H : K (x1 + x2) S) : M_Wr_join hc d 43 x1 x2 S K := by
  refine e_Wr_join ⟨fun h => absurd h (by decide), fun h => absurd h (by decide), fun h => absurd h (by decide), fun h => absurd h (by decide), fun h => absurd h (by decide), fun h => absurd h (by decide), fun h => absurd h (by decide), fun _ => ?_, fun h => absurd h (by decide), fun h => absurd h (by decide), fun h => absurd h (by decide), fun h => absurd h (by decide), fun h => absurd h (by decide), fun h => absurd h (by decide), fun h => absurd h (by decide), fun h => absurd h (by decide), fun h => absurd h (by decide), fun h => absurd h (by decide), fun h => absurd h (by decide), fun h => absurd h (by decide), fun h => absurd h (by decide), fun h => absurd h (by decide), fun h => absurd h (by decide), fun h => absurd h (by decide), fun h => absurd h (by decide), fun h => absurd h (by decide), fun h => absurd h (by decide)⟩
  exact H
theorem jC_45 {x1 x2 : Int32} {K : Int32 → xSt → Prop} (H : K (x1 - x2) S) : M_Wr_join hc d 45 x1 x2 S K := by
  refine e_Wr_join ⟨fun h => absurd h (by decide), fun h => absurd h (by decide), fun h => absurd h (by decide), fun h => absurd h (by decide), fun h => absurd h (by decide), fun h => absurd h (by decide), fun h => absurd h (by decide), fun h => absurd h (by decide), fun h => absurd h (by decide), fun _ => ?_, fun h => absurd h (by decide), fun h => absurd h (by decide), fun h => absurd h (by decide), fun h => absurd h (by decide), fun h => absurd h (by decide), fun h => absurd h (by decide), fun h => absurd h (by decide), fun h => absurd h (by decide), fun h => absurd h (by decide), fun h => absurd h (by decide), fun h => absurd h (by decide), fun h => absurd h (by decide), fun h => absurd h (by decide), fun h => absurd h (by decide), fun h => absurd h (by decide), fun h => absurd h (by decide), fun h => absurd h (by decide)⟩
  exact H
theorem jC_42 {x1 x2 : Int32} {K : Int32 → xSt → Prop} (H : K (x1 * x2) S) : M_Wr_join hc d 42 x1 x2 S K := by
  refine e_Wr_join ⟨fun h => absurd h (by decide), fun h => absurd h (by decide), fun h => absurd h (by decide), fun h => absurd h (by decide), fun h => absurd h (by decide), fun h => absurd h (by decide), fun _ => ?_, fun h => absurd h (by decide), fun h => absurd h (by decide), fun h => absurd h (by decide), fun h => absurd h (by decide), fun h => absurd h (by decide), fun h => absurd h (by decide), fun h => absurd h (by decide), fun h => absurd h (by decide), fun h => absurd h (by decide), fun h => absurd h (by decide), fun h => absurd h (by decide), fun h => absurd h (by decide), fun h => absurd h (by decide), fun h => absurd h (by decide), fun h => absurd h (by decide), fun h => absurd h (by decide), fun h => absurd h (by decide), fun h => absurd h (by decide), fun h => absurd h (by decide), fun h => absurd h (by decide)⟩
  exact H
theorem jC_47 {x1 x2 : Int32} {K : Int32 → xSt → Prop} (H : K (if x2 = 0 then 0 else x1 / x2) S) : M_Wr_join hc d 47 x1 x2 S K := by
  refine e_Wr_join ⟨fun h => absurd h (by decide), fun h => absurd h (by decide), fun h => absurd h (by decide), fun h => absurd h (by decide), fun h => absurd h (by decide), fun h => absurd h (by decide), fun h => absurd h (by decide), fun h => absurd h (by decide), fun h => absurd h (by decide), fun h => absurd h (by decide), fun h => absurd h (by decide), fun _ => ?_, fun h => absurd h (by decide), fun h => absurd h (by decide), fun h => absurd h (by decide), fun h => absurd h (by decide), fun h => absurd h (by decide), fun h => absurd h (by decide), fun h => absurd h (by decide), fun h => absurd h (by decide), fun h => absurd h (by decide), fun h => absurd h (by decide), fun h => absurd h (by decide), fun h => absurd h (by decide), fun h => absurd h (by decide), fun h => absurd h (by decide), fun h => absurd h (by decide)⟩
  exact by
    by_cases z : x2 = 0
    · rw [if_pos z] at H; exact br_nt z H
    · rw [if_neg z] at H; exact br_nf z ⟨z, H⟩
theorem jC_37 {x1 x2 : Int32} {K : Int32 → xSt → Prop} (H : K (if x2 = 0 then 0 else x1 - x1 / x2 * x2) S) : M_Wr_join hc d 37 x1 x2 S K := by
  refine e_Wr_join ⟨fun h => absurd h (by decide), fun _ => ?_, fun h => absurd h (by decide), fun h => absurd h (by decide), fun h => absurd h (by decide), fun h => absurd h (by decide), fun h => absurd h (by decide), fun h => absurd h (by decide), fun h => absurd h (by decide), fun h => absurd h (by decide), fun h => absurd h (by decide), fun h => absurd h (by decide), fun h => absurd h (by decide), fun h => absurd h (by decide), fun h => absurd h (by decide), fun h => absurd h (by decide), fun h => absurd h (by decide), fun h => absurd h (by decide), fun h => absurd h (by decide), fun h => absurd h (by decide), fun h => absurd h (by decide), fun h => absurd h (by decide), fun h => absurd h (by decide), fun h => absurd h (by decide), fun h => absurd h (by decide), fun h => absurd h (by decide), fun h => absurd h (by decide)⟩
  exact by
    by_cases z : x2 = 0
    · rw [if_pos z] at H; exact br_nt z H
    · rw [if_neg z] at H; exact br_nf z ⟨z, H⟩
theorem jC_60 {x1 x2 : Int32} {K : Int32 → xSt → Prop} (H : K (bi (¬ x2 ≤ x1)) S) : M_Wr_join hc d 60 x1 x2 S K := by
  refine e_Wr_join ⟨fun h => absurd h (by decide), fun h => absurd h (by decide), fun h => absurd h (by decide), fun h => absurd h (by decide), fun h => absurd h (by decide), fun h => absurd h (by decide), fun h => absurd h (by decide), fun h => absurd h (by decide), fun h => absurd h (by decide), fun h => absurd h (by decide), fun h => absurd h (by decide), fun h => absurd h (by decide), fun h => absurd h (by decide), fun h => absurd h (by decide), fun h => absurd h (by decide), fun h => absurd h (by decide), fun h => absurd h (by decide), fun h => absurd h (by decide), fun h => absurd h (by decide), fun h => absurd h (by decide), fun h => absurd h (by decide), fun h => absurd h (by decide), fun h => absurd h (by decide), fun h => absurd h (by decide), fun _ => ?_, fun h => absurd h (by decide), fun h => absurd h (by decide)⟩
  exact by
    by_cases z : x2 ≤ x1
    · rw [bi_neg (fun y => y z)] at H; exact br_t z (wt0 H)
    · rw [bi_pos z] at H; exact br_f z (wt1 H)
theorem jC_62 {x1 x2 : Int32} {K : Int32 → xSt → Prop} (H : K (bi (¬ x1 ≤ x2)) S) : M_Wr_join hc d 62 x1 x2 S K := by
  refine e_Wr_join ⟨fun h => absurd h (by decide), fun h => absurd h (by decide), fun h => absurd h (by decide), fun h => absurd h (by decide), fun h => absurd h (by decide), fun h => absurd h (by decide), fun h => absurd h (by decide), fun h => absurd h (by decide), fun h => absurd h (by decide), fun h => absurd h (by decide), fun h => absurd h (by decide), fun h => absurd h (by decide), fun h => absurd h (by decide), fun h => absurd h (by decide), fun h => absurd h (by decide), fun h => absurd h (by decide), fun h => absurd h (by decide), fun h => absurd h (by decide), fun h => absurd h (by decide), fun h => absurd h (by decide), fun h => absurd h (by decide), fun h => absurd h (by decide), fun h => absurd h (by decide), fun h => absurd h (by decide), fun h => absurd h (by decide), fun h => absurd h (by decide), fun _ => ?_⟩
  exact by
    by_cases z : x1 ≤ x2
    · rw [bi_neg (fun y => y z)] at H; exact br_t z (wt0 H)
    · rw [bi_pos z] at H; exact br_f z (wt1 H)
theorem jC_61 {x1 x2 : Int32} {K : Int32 → xSt → Prop} (H : K (bi (x1 = x2)) S) : M_Wr_join hc d 61 x1 x2 S K := by
  refine e_Wr_join ⟨fun h => absurd h (by decide), fun h => absurd h (by decide), fun h => absurd h (by decide), fun h => absurd h (by decide), fun h => absurd h (by decide), fun h => absurd h (by decide), fun h => absurd h (by decide), fun h => absurd h (by decide), fun h => absurd h (by decide), fun h => absurd h (by decide), fun h => absurd h (by decide), fun h => absurd h (by decide), fun h => absurd h (by decide), fun h => absurd h (by decide), fun h => absurd h (by decide), fun h => absurd h (by decide), fun h => absurd h (by decide), fun h => absurd h (by decide), fun h => absurd h (by decide), fun h => absurd h (by decide), fun h => absurd h (by decide), fun h => absurd h (by decide), fun h => absurd h (by decide), fun h => absurd h (by decide), fun h => absurd h (by decide), fun _ => ?_, fun h => absurd h (by decide)⟩
  exact by
    by_cases z : x1 = x2
    · rw [bi_pos z] at H; exact br_nt z (wt1 H)
    · rw [bi_neg z] at H; exact br_nf z (wt0 H)
theorem jC_38 {x1 x2 : Int32} {K : Int32 → xSt → Prop} (H : K (bi (¬ x1 = 0 ∧ ¬ x2 = 0)) S) : M_Wr_join hc d 38 x1 x2 S K := by
  refine e_Wr_join ⟨fun h => absurd h (by decide), fun h => absurd h (by decide), fun _ => ?_, fun h => absurd h (by decide), fun h => absurd h (by decide), fun h => absurd h (by decide), fun h => absurd h (by decide), fun h => absurd h (by decide), fun h => absurd h (by decide), fun h => absurd h (by decide), fun h => absurd h (by decide), fun h => absurd h (by decide), fun h => absurd h (by decide), fun h => absurd h (by decide), fun h => absurd h (by decide), fun h => absurd h (by decide), fun h => absurd h (by decide), fun h => absurd h (by decide), fun h => absurd h (by decide), fun h => absurd h (by decide), fun h => absurd h (by decide), fun h => absurd h (by decide), fun h => absurd h (by decide), fun h => absurd h (by decide), fun h => absurd h (by decide), fun h => absurd h (by decide), fun h => absurd h (by decide)⟩
  exact by
    by_cases z : x1 = 0
    · rw [bi_neg (fun y => y.1 z)] at H; exact br_t z (wt0 H)
    · by_cases w : x2 = 0
      · rw [bi_neg (fun y => y.2 w)] at H; exact br_f z (br_t w (wt0 H))
      · rw [bi_pos ⟨z, w⟩] at H; exact br_f z (br_f w (wt1 H))
theorem jC_124 {x1 x2 : Int32} {K : Int32 → xSt → Prop} (H : K (bi (¬ x1 = 0 ∨ ¬ x2 = 0)) S) : M_Wr_join hc d 124 x1 x2 S K := by
  refine e_Wr_join ⟨fun _ => ?_, fun h => absurd h (by decide), fun h => absurd h (by decide), fun h => absurd h (by decide), fun h => absurd h (by decide), fun h => absurd h (by decide), fun h => absurd h (by decide), fun h => absurd h (by decide), fun h => absurd h (by decide), fun h => absurd h (by decide), fun h => absurd h (by decide), fun h => absurd h (by decide), fun h => absurd h (by decide), fun h => absurd h (by decide), fun h => absurd h (by decide), fun h => absurd h (by decide), fun h => absurd h (by decide), fun h => absurd h (by decide), fun h => absurd h (by decide), fun h => absurd h (by decide), fun h => absurd h (by decide), fun h => absurd h (by decide), fun h => absurd h (by decide), fun h => absurd h (by decide), fun h => absurd h (by decide), fun h => absurd h (by decide), fun h => absurd h (by decide)⟩
  exact by
    by_cases z : x1 = 0
    · by_cases w : x2 = 0
      · rw [bi_neg (fun y => y.elim (fun y => y z) (fun y => y w))] at H; exact br_nt z (br_t w (wt0 H))
      · rw [bi_pos (Or.inr w)] at H; exact br_nt z (br_f w (wt1 H))
    · rw [bi_pos (Or.inl z)] at H; exact br_nf z (wt1 H)
theorem jC_op {s x1 x2 : Int32} (hs : isOp s) {K : Int32 → xSt → Prop} (H : K (wop s x1 x2) S) : M_Wr_join hc d s x1 x2 S K := by
  rcases hs with rfl | rfl | rfl | rfl | rfl | rfl | rfl | rfl | rfl | rfl
  · exact jC_43 H
  · exact jC_45 H
  · exact jC_42 H
  · exact jC_47 H
  · exact jC_37 H
  · exact jC_60 H
  · exact jC_62 H
  · exact jC_61 H
  · exact jC_38 H
  · exact jC_124 H
theorem jM_43 {x1 x2 : Int32} {K : Int32 → xSt → Prop} (H : K (x1 + x2) M) : M_M_done hm e 43 x1 x2 M K := by
  refine e_M_done ⟨fun h => absurd h (by decide), fun h => absurd h (by decide), fun h => absurd h (by decide), fun h => absurd h (by decide), fun h => absurd h (by decide), fun h => absurd h (by decide), fun h => absurd h (by decide), fun _ => ?_, fun h => absurd h (by decide), fun h => absurd h (by decide), fun h => absurd h (by decide), fun h => absurd h (by decide), fun h => absurd h (by decide), fun h => absurd h (by decide), fun h => absurd h (by decide), fun h => absurd h (by decide), fun h => absurd h (by decide), fun h => absurd h (by decide), fun h => absurd h (by decide), fun h => absurd h (by decide), fun h => absurd h (by decide), fun h => absurd h (by decide), fun h => absurd h (by decide), fun h => absurd h (by decide), fun h => absurd h (by decide), fun h => absurd h (by decide), fun h => absurd h (by decide)⟩
  exact H
theorem jM_45 {x1 x2 : Int32} {K : Int32 → xSt → Prop} (H : K (x1 - x2) M) : M_M_done hm e 45 x1 x2 M K := by
  refine e_M_done ⟨fun h => absurd h (by decide), fun h => absurd h (by decide), fun h => absurd h (by decide), fun h => absurd h (by decide), fun h => absurd h (by decide), fun h => absurd h (by decide), fun h => absurd h (by decide), fun h => absurd h (by decide), fun h => absurd h (by decide), fun _ => ?_, fun h => absurd h (by decide), fun h => absurd h (by decide), fun h => absurd h (by decide), fun h => absurd h (by decide), fun h => absurd h (by decide), fun h => absurd h (by decide), fun h => absurd h (by decide), fun h => absurd h (by decide), fun h => absurd h (by decide), fun h => absurd h (by decide), fun h => absurd h (by decide), fun h => absurd h (by decide), fun h => absurd h (by decide), fun h => absurd h (by decide), fun h => absurd h (by decide), fun h => absurd h (by decide), fun h => absurd h (by decide)⟩
  exact H
theorem jM_42 {x1 x2 : Int32} {K : Int32 → xSt → Prop} (H : K (x1 * x2) M) : M_M_done hm e 42 x1 x2 M K := by
  refine e_M_done ⟨fun h => absurd h (by decide), fun h => absurd h (by decide), fun h => absurd h (by decide), fun h => absurd h (by decide), fun h => absurd h (by decide), fun h => absurd h (by decide), fun _ => ?_, fun h => absurd h (by decide), fun h => absurd h (by decide), fun h => absurd h (by decide), fun h => absurd h (by decide), fun h => absurd h (by decide), fun h => absurd h (by decide), fun h => absurd h (by decide), fun h => absurd h (by decide), fun h => absurd h (by decide), fun h => absurd h (by decide), fun h => absurd h (by decide), fun h => absurd h (by decide), fun h => absurd h (by decide), fun h => absurd h (by decide), fun h => absurd h (by decide), fun h => absurd h (by decide), fun h => absurd h (by decide), fun h => absurd h (by decide), fun h => absurd h (by decide), fun h => absurd h (by decide)⟩
  exact H
theorem jM_47 {x1 x2 : Int32} {K : Int32 → xSt → Prop} (H : K (if x2 = 0 then 0 else x1 / x2) M) : M_M_done hm e 47 x1 x2 M K := by
  refine e_M_done ⟨fun h => absurd h (by decide), fun h => absurd h (by decide), fun h => absurd h (by decide), fun h => absurd h (by decide), fun h => absurd h (by decide), fun h => absurd h (by decide), fun h => absurd h (by decide), fun h => absurd h (by decide), fun h => absurd h (by decide), fun h => absurd h (by decide), fun h => absurd h (by decide), fun _ => ?_, fun h => absurd h (by decide), fun h => absurd h (by decide), fun h => absurd h (by decide), fun h => absurd h (by decide), fun h => absurd h (by decide), fun h => absurd h (by decide), fun h => absurd h (by decide), fun h => absurd h (by decide), fun h => absurd h (by decide), fun h => absurd h (by decide), fun h => absurd h (by decide), fun h => absurd h (by decide), fun h => absurd h (by decide), fun h => absurd h (by decide), fun h => absurd h (by decide)⟩
  exact by
    by_cases z : x2 = 0
    · rw [if_pos z] at H; exact br_nt z H
    · rw [if_neg z] at H; exact br_nf z ⟨z, H⟩
theorem jM_37 {x1 x2 : Int32} {K : Int32 → xSt → Prop} (H : K (if x2 = 0 then 0 else x1 - x1 / x2 * x2) M) : M_M_done hm e 37 x1 x2 M K := by
  refine e_M_done ⟨fun h => absurd h (by decide), fun _ => ?_, fun h => absurd h (by decide), fun h => absurd h (by decide), fun h => absurd h (by decide), fun h => absurd h (by decide), fun h => absurd h (by decide), fun h => absurd h (by decide), fun h => absurd h (by decide), fun h => absurd h (by decide), fun h => absurd h (by decide), fun h => absurd h (by decide), fun h => absurd h (by decide), fun h => absurd h (by decide), fun h => absurd h (by decide), fun h => absurd h (by decide), fun h => absurd h (by decide), fun h => absurd h (by decide), fun h => absurd h (by decide), fun h => absurd h (by decide), fun h => absurd h (by decide), fun h => absurd h (by decide), fun h => absurd h (by decide), fun h => absurd h (by decide), fun h => absurd h (by decide), fun h => absurd h (by decide), fun h => absurd h (by decide)⟩
  exact by
    by_cases z : x2 = 0
    · rw [if_pos z] at H; exact br_nt z H
    · rw [if_neg z] at H; exact br_nf z ⟨z, H⟩
theorem jM_60 {x1 x2 : Int32} {K : Int32 → xSt → Prop} (H : K (bi (¬ x2 ≤ x1)) M) : M_M_done hm e 60 x1 x2 M K := by
  refine e_M_done ⟨fun h => absurd h (by decide), fun h => absurd h (by decide), fun h => absurd h (by decide), fun h => absurd h (by decide), fun h => absurd h (by decide), fun h => absurd h (by decide), fun h => absurd h (by decide), fun h => absurd h (by decide), fun h => absurd h (by decide), fun h => absurd h (by decide), fun h => absurd h (by decide), fun h => absurd h (by decide), fun h => absurd h (by decide), fun h => absurd h (by decide), fun h => absurd h (by decide), fun h => absurd h (by decide), fun h => absurd h (by decide), fun h => absurd h (by decide), fun h => absurd h (by decide), fun h => absurd h (by decide), fun h => absurd h (by decide), fun h => absurd h (by decide), fun h => absurd h (by decide), fun h => absurd h (by decide), fun _ => ?_, fun h => absurd h (by decide), fun h => absurd h (by decide)⟩
  exact by
    by_cases z : x2 ≤ x1
    · rw [bi_neg (fun y => y z)] at H; exact br_t z (truth0 H)
    · rw [bi_pos z] at H; exact br_f z (truth1 H)
theorem jM_62 {x1 x2 : Int32} {K : Int32 → xSt → Prop} (H : K (bi (¬ x1 ≤ x2)) M) : M_M_done hm e 62 x1 x2 M K := by
  refine e_M_done ⟨fun h => absurd h (by decide), fun h => absurd h (by decide), fun h => absurd h (by decide), fun h => absurd h (by decide), fun h => absurd h (by decide), fun h => absurd h (by decide), fun h => absurd h (by decide), fun h => absurd h (by decide), fun h => absurd h (by decide), fun h => absurd h (by decide), fun h => absurd h (by decide), fun h => absurd h (by decide), fun h => absurd h (by decide), fun h => absurd h (by decide), fun h => absurd h (by decide), fun h => absurd h (by decide), fun h => absurd h (by decide), fun h => absurd h (by decide), fun h => absurd h (by decide), fun h => absurd h (by decide), fun h => absurd h (by decide), fun h => absurd h (by decide), fun h => absurd h (by decide), fun h => absurd h (by decide), fun h => absurd h (by decide), fun h => absurd h (by decide), fun _ => ?_⟩
  exact by
    by_cases z : x1 ≤ x2
    · rw [bi_neg (fun y => y z)] at H; exact br_t z (truth0 H)
    · rw [bi_pos z] at H; exact br_f z (truth1 H)
theorem jM_61 {x1 x2 : Int32} {K : Int32 → xSt → Prop} (H : K (bi (x1 = x2)) M) : M_M_done hm e 61 x1 x2 M K := by
  refine e_M_done ⟨fun h => absurd h (by decide), fun h => absurd h (by decide), fun h => absurd h (by decide), fun h => absurd h (by decide), fun h => absurd h (by decide), fun h => absurd h (by decide), fun h => absurd h (by decide), fun h => absurd h (by decide), fun h => absurd h (by decide), fun h => absurd h (by decide), fun h => absurd h (by decide), fun h => absurd h (by decide), fun h => absurd h (by decide), fun h => absurd h (by decide), fun h => absurd h (by decide), fun h => absurd h (by decide), fun h => absurd h (by decide), fun h => absurd h (by decide), fun h => absurd h (by decide), fun h => absurd h (by decide), fun h => absurd h (by decide), fun h => absurd h (by decide), fun h => absurd h (by decide), fun h => absurd h (by decide), fun h => absurd h (by decide), fun _ => ?_, fun h => absurd h (by decide)⟩
  exact by
    by_cases z : x1 = x2
    · rw [bi_pos z] at H; exact br_nt z (truth1 H)
    · rw [bi_neg z] at H; exact br_nf z (truth0 H)
theorem jM_38 {x1 x2 : Int32} {K : Int32 → xSt → Prop} (H : K (bi (¬ x1 = 0 ∧ ¬ x2 = 0)) M) : M_M_done hm e 38 x1 x2 M K := by
  refine e_M_done ⟨fun h => absurd h (by decide), fun h => absurd h (by decide), fun _ => ?_, fun h => absurd h (by decide), fun h => absurd h (by decide), fun h => absurd h (by decide), fun h => absurd h (by decide), fun h => absurd h (by decide), fun h => absurd h (by decide), fun h => absurd h (by decide), fun h => absurd h (by decide), fun h => absurd h (by decide), fun h => absurd h (by decide), fun h => absurd h (by decide), fun h => absurd h (by decide), fun h => absurd h (by decide), fun h => absurd h (by decide), fun h => absurd h (by decide), fun h => absurd h (by decide), fun h => absurd h (by decide), fun h => absurd h (by decide), fun h => absurd h (by decide), fun h => absurd h (by decide), fun h => absurd h (by decide), fun h => absurd h (by decide), fun h => absurd h (by decide), fun h => absurd h (by decide)⟩
  exact by
    by_cases z : x1 = 0
    · rw [bi_neg (fun y => y.1 z)] at H; exact br_t z (truth0 H)
    · by_cases w : x2 = 0
      · rw [bi_neg (fun y => y.2 w)] at H; exact br_f z (br_t w (truth0 H))
      · rw [bi_pos ⟨z, w⟩] at H; exact br_f z (br_f w (truth1 H))
theorem jM_124 {x1 x2 : Int32} {K : Int32 → xSt → Prop} (H : K (bi (¬ x1 = 0 ∨ ¬ x2 = 0)) M) : M_M_done hm e 124 x1 x2 M K := by
  refine e_M_done ⟨fun _ => ?_, fun h => absurd h (by decide), fun h => absurd h (by decide), fun h => absurd h (by decide), fun h => absurd h (by decide), fun h => absurd h (by decide), fun h => absurd h (by decide), fun h => absurd h (by decide), fun h => absurd h (by decide), fun h => absurd h (by decide), fun h => absurd h (by decide), fun h => absurd h (by decide), fun h => absurd h (by decide), fun h => absurd h (by decide), fun h => absurd h (by decide), fun h => absurd h (by decide), fun h => absurd h (by decide), fun h => absurd h (by decide), fun h => absurd h (by decide), fun h => absurd h (by decide), fun h => absurd h (by decide), fun h => absurd h (by decide), fun h => absurd h (by decide), fun h => absurd h (by decide), fun h => absurd h (by decide), fun h => absurd h (by decide), fun h => absurd h (by decide)⟩
  exact by
    by_cases z : x1 = 0
    · by_cases w : x2 = 0
      · rw [bi_neg (fun y => y.elim (fun y => y z) (fun y => y w))] at H; exact br_nt z (br_t w (truth0 H))
      · rw [bi_pos (Or.inr w)] at H; exact br_nt z (br_f w (truth1 H))
    · rw [bi_pos (Or.inl z)] at H; exact br_nf z (truth1 H)
theorem jM_op {s x1 x2 : Int32} (hs : isOp s) {K : Int32 → xSt → Prop} (H : K (wop s x1 x2) M) : M_M_done hm e s x1 x2 M K := by
  rcases hs with rfl | rfl | rfl | rfl | rfl | rfl | rfl | rfl | rfl | rfl
  · exact jM_43 H
  · exact jM_45 H
  · exact jM_42 H
  · exact jM_47 H
  · exact jM_37 H
  · exact jM_60 H
  · exact jM_62 H
  · exact jM_61 H
  · exact jM_38 H
  · exact jM_124 H
-- the formula worked off
abbrev evA (x1 x2 x3 x4 a : Int32) : Int32 := if a = 0 then x1 else if a = 1 then x2 else if a = 2 then x3 else x4
def evF (step arg : Nat → Int32) (x1 x2 x3 x4 : Int32) (k : Nat) (a : Nat × (Nat → Int32)) : Nat × (Nat → Int32) :=
  if step k = 0 then (a.1 + 1, upd a.2 a.1 (arg k)) else if step k = 1 then (a.1 + 1, upd a.2 a.1 (evA x1 x2 x3 x4 (arg k))) else
  if step k = 2 then (a.1, upd a.2 (a.1 - 1) (bi (a.2 (a.1 - 1) = 0))) else (a.1 - 1, upd a.2 (a.1 - 2) (wop (arg k) (a.2 (a.1 - 2)) (a.2 (a.1 - 1))))
def wVal (n : Nat) (step arg : Nat → Int32) (x1 x2 x3 x4 : Int32) : Int32 := (fo (evF step arg x1 x2 x3 x4) n (0, fun _ => 0)).2 0
theorem wDep_pos {n : Nat} {code step arg : Nat → Int32} (h : wOk n code step arg) : ∀ k, k < n → 1 ≤ wDep step (k + 1) := by
  intro k hk
  obtain ⟨h1, h2, h3, -⟩ := h k hk
  show 1 ≤ if step k = 0 ∨ step k = 1 then wDep step k + 1 else if step k = 2 then wDep step k else wDep step k - 1
  by_cases c : step k = 0 ∨ step k = 1
  · rw [if_pos c]; omega
  · rw [if_neg c]
    by_cases c2 : step k = 2
    · rw [if_pos c2]; exact h2 c2
    · rw [if_neg c2]
      have : step k = 3 := by
        rcases h1 with q | q | q | q
        · exact absurd (Or.inl q.1) c
        · exact absurd (Or.inr q.1) c
        · exact absurd q.1 c2
        · exact q.1
      have := h3 this
      omega
/-- what lay on the stack before doesn't matter -/
theorem ev_any {n : Nat} {code step arg : Nat → Int32} (h : wOk n code step arg) (h0 : 0 < n) (x1 x2 x3 x4 : Int32) (f : Nat → Int32) : (fo (evF step arg x1 x2 x3 x4) n (0, f)).2 0 = wVal n step arg x1 x2 x3 x4 := by
  have key := fo_relI (f := evF step arg x1 x2 x3 x4) (g := evF step arg x1 x2 x3 x4) (n := n) (fun k a b => a.1 = wDep step k ∧ b.1 = a.1 ∧ ∀ j, j < a.1 → b.2 j = a.2 j) (fun k hk a b hab => by
    obtain ⟨q1, q2, q3⟩ := hab
    obtain ⟨h1, h2, h3, -⟩ := h k hk
    show (evF step arg x1 x2 x3 x4 k a).1 = (if step k = 0 ∨ step k = 1 then wDep step k + 1 else if step k = 2 then wDep step k else wDep step k - 1) ∧ _
    unfold evF
    rw [q2]
    by_cases c0 : step k = 0
    · rw [if_pos c0, if_pos c0, if_pos (Or.inl c0), q1]
      refine ⟨rfl, rfl, fun j hj => ?_⟩
      show upd b.2 (wDep step k) _ j = upd a.2 (wDep step k) _ j
      by_cases z : j = wDep step k
      · rw [z, up_s, up_s]
      · rw [up_n _ _ z, up_n _ _ z]; exact q3 j (by have : j < wDep step k + 1 := hj; omega)
    · rw [if_neg c0, if_neg c0]
      by_cases c1 : step k = 1
      · rw [if_pos c1, if_pos c1, if_pos (Or.inr c1), q1]
        refine ⟨rfl, rfl, fun j hj => ?_⟩
        show upd b.2 (wDep step k) _ j = upd a.2 (wDep step k) _ j
        by_cases z : j = wDep step k
        · rw [z, up_s, up_s]
        · rw [up_n _ _ z, up_n _ _ z]; exact q3 j (by have : j < wDep step k + 1 := hj; omega)
      · have c01 : ¬ (step k = 0 ∨ step k = 1) := fun z => z.elim c0 c1
        rw [if_neg c1, if_neg c1, if_neg c01]
        by_cases c2 : step k = 2
        · have := h2 c2
          rw [if_pos c2, if_pos c2, if_pos c2, q3 (a.1 - 1) (by omega)]
          refine ⟨q1, rfl, fun j hj => ?_⟩
          show upd b.2 (a.1 - 1) _ j = upd a.2 (a.1 - 1) _ j
          by_cases z : j = a.1 - 1
          · rw [z, up_s, up_s]
          · rw [up_n _ _ z, up_n _ _ z]; exact q3 j hj
        · have c3 : step k = 3 := by
            rcases h1 with q | q | q | q
            · exact absurd q.1 c0
            · exact absurd q.1 c1
            · exact absurd q.1 c2
            · exact q.1
          have := h3 c3
          rw [if_neg c2, if_neg c2, if_neg c2, q3 (a.1 - 1) (by omega), q3 (a.1 - 2) (by omega)]
          refine ⟨by rw [q1], rfl, fun j hj => ?_⟩
          show upd b.2 (a.1 - 2) _ j = upd a.2 (a.1 - 2) _ j
          by_cases z : j = a.1 - 2
          · rw [z, up_s, up_s]
          · rw [up_n _ _ z, up_n _ _ z]; exact q3 j (by have : j < a.1 - 1 := hj; omega)) (a := (0, fun _ => 0)) (b := (0, f)) ⟨rfl, rfl, fun j hj => absurd hj (Nat.not_lt_zero j)⟩
  obtain ⟨k1, k2, k3⟩ := key
  obtain ⟨m, rfl⟩ : ∃ m, n = m + 1 := ⟨n - 1, by omega⟩
  refine k3 0 ?_
  rw [k1]; exact wDep_pos h m (by omega)
abbrev wAmt (n : Nat) (step arg : Nat → Int32) (x1 x2 x3 x4 : Int32) : Int32 := if n = 0 then 1 else wVal n step arg x1 x2 x3 x4
theorem n1000 (k : Nat) : nI (1000 + k) - 1000 = nI k := by
  rw [show (1000 : Int32) = nI 1000 by decide, pk_sub (by omega), Nat.add_sub_cancel_left]
theorem push_y {k : Nat} (h : k < 32) {v : Int32} {K : Int32 → xSt → Prop} {f : Nat → Int32} (H : K (nI (k + 1)) (x_putA S 17 (upd f k v))) : M_Wr_push_15 hc d (nI k) v (x_putA S 17 f) K := by
  refine e_Wr_push_15 (br_t (nI_lt (b := 32) h (by omega)) ⟨vIn h (by omega), ?_⟩)
  rw [nI_1, nCl (by omega), pI_pA]; exact H
theorem m_amount {n : Nat} {step arg : Nat → Int32} (hl : S.1 15 1 = nI n) (hn : n ≤ 300) (hok : wOk n (S.1 16) step arg) (x1 x2 x3 x4 : Int32) : ∃ f', ∀ (d : Nat) (K : Int32 → xSt → Prop), K (wAmt n step arg x1 x2 x3 x4) (x_putA S 17 f') → M_Wr_amount_15 hc d x1 x2 x3 x4 S K := by
  by_cases h0 : n = 0
  · subst h0
    refine ⟨S.1 17, fun d K H => e_Wr_amount_15 (br_nt (by rw [hl]; rfl) ?_)⟩
    rw [pA_self] at H; exact H
  · refine ⟨(fo (evF step arg x1 x2 x3 x4) n (0, S.1 17)).2, fun d K H => e_Wr_amount_15 (br_nf (by rw [hl]; exact nI_ne0 (by omega) (by omega)) ?_)⟩
    unfold wAmt at H
    rw [if_neg h0, ← ev_any hok (by omega) x1 x2 x3 x4 (S.1 17)] at H
    have := lp_upI (B := fun i (a : Nat × (Nat → Int32)) => B_Wr_amount_15_15 hc d x1 x2 x3 x4 (nI a.1) (nI i) (x_putA S 17 a.2) K) (fun i a => a.1 = wDep step i) (evF step arg x1 x2 x3 x4) n (fun i a hi h => ?_) (fun i a hi ha ih => ?_) (0, S.1 17) rfl (fun _ => b_Wr_amount_15_15 (br_t (by show S.1 15 1 ≤ _; rw [hl]; exact nI_le (Nat.le_refl _) (by omega)) (by rw [gA_s]; exact H)))
    · rw [pA_self] at this; exact this
    · show (evF step arg x1 x2 x3 x4 i a).1 = if step i = 0 ∨ step i = 1 then wDep step i + 1 else if step i = 2 then wDep step i else wDep step i - 1
      unfold evF
      by_cases c0 : step i = 0
      · rw [if_pos c0, if_pos (Or.inl c0), h]
      · rw [if_neg c0]
        by_cases c1 : step i = 1
        · rw [if_pos c1, if_pos (Or.inr c1), h]
        · have c01 : ¬ (step i = 0 ∨ step i = 1) := fun z => z.elim c0 c1
          rw [if_neg c1, if_neg c01]
          by_cases c2 : step i = 2
          · rw [if_pos c2, if_pos c2, h]
          · rw [if_neg c2, if_neg c2, h]
    · obtain ⟨h1, h2, h3, h4⟩ := hok i hi
      have h5 : (if step i = 0 ∨ step i = 1 then wDep step i + 1 else if step i = 2 then wDep step i else wDep step i - 1) ≤ 30 := h4
      have ci : (nI i).toNatClampNeg = i := nCl (by omega)
      have g0 : ¬ (x_putA S 17 a.2).1 15 1 ≤ nI i := by show ¬ S.1 15 1 ≤ _; rw [hl]; exact nI_ge hi (by omega)
      refine b_Wr_amount_15_15 (br_f g0 ⟨vIn (by omega) (by omega), ?_⟩)
      rw [ci, show (x_putA S 17 a.2).1 16 i = S.1 16 i from rfl, gA_s]
      have ih : B_Wr_amount_15_15 hc d x1 x2 x3 x4 (nI (evF step arg x1 x2 x3 x4 i a).1) (nI (i + 1)) (x_putA S 17 (evF step arg x1 x2 x3 x4 i a).2) K := ih
      unfold evF at ih
      rcases h1 with ⟨s, k, hk, ea, ec⟩ | ⟨s, q⟩ | ⟨s, ec⟩ | ⟨s, ec, hop⟩
      · rw [if_pos s] at ih
        rw [if_pos (Or.inl s)] at h5
        rw [ec]
        refine br_f (nI_nlt (b := 1000) (by omega) (by omega)) (push_y (by omega) (b_Wr_amount_15_219 ?_))
        rw [nI_1, n1000 k, ← ea]; exact ih
      · rw [if_neg (by rw [s]; decide), if_pos s] at ih
        rw [if_pos (Or.inr s)] at h5
        have fin : ∀ v, v = evA x1 x2 x3 x4 (arg i) → M_Wr_push_15 hc (d + 1) (nI a.1) v (x_putA S 17 a.2) (fun r S' => B_Wr_amount_15_219 hc d x1 x2 x3 x4 r (nI i) S' K) := by
          intro v hv
          refine push_y (by omega) (b_Wr_amount_15_219 ?_)
          rw [nI_1, hv]; exact ih
        rcases q with ⟨ea, ec⟩ | ⟨ea, ec⟩ | ⟨ea, ec⟩ | ⟨ea, ec⟩
        · rw [ec]; exact br_t (by decide) (br_nt rfl (fin _ (by rw [ea]; rfl)))
        · rw [ec]; exact br_t (by decide) (br_nf (by decide) (br_nt rfl (fin _ (by rw [ea]; rfl))))
        · rw [ec]; exact br_t (by decide) (br_nf (by decide) (br_nf (by decide) (br_nt rfl (fin _ (by rw [ea]; rfl)))))
        · rw [ec]; exact br_t (by decide) (br_nf (by decide) (br_nf (by decide) (br_nf (by decide) (br_nt rfl (fin _ (by rw [ea]; rfl))))))
      · rw [if_neg (by rw [s]; decide), if_neg (by rw [s]; decide), if_pos s] at ih
        rw [if_neg (by rw [s]; decide), if_pos s] at h5
        have := h2 s
        rw [ec]
        have e1 : nI a.1 - 1 = nI (a.1 - 1) := by rw [show (1 : Int32) = nI 1 from rfl, pk_sub (by omega)]
        refine br_t (by decide) (br_nf (by decide) (br_nf (by decide) (br_nf (by decide) (br_nf (by decide) (br_nt rfl (br_f (nI_nlt (b := 1) (by omega) (by omega)) ?_))))))
        rw [e1]
        have v : vp_in (nI (a.1 - 1)) 32 := vIn (by omega) (by omega)
        refine ⟨v, ?_⟩
        rw [nCl (by omega)]
        by_cases z : a.2 (a.1 - 1) = 0
        · rw [bi_pos z] at ih
          refine br_nt z (b_Wr_amount_15_173 (wt1 ⟨v, b_Wr_amount_15_219 ?_⟩))
          rw [nI_1, nCl (by omega), pI_pA]; exact ih
        · rw [bi_neg z] at ih
          refine br_nf z (b_Wr_amount_15_173 (wt0 ⟨v, b_Wr_amount_15_219 ?_⟩))
          rw [nI_1, nCl (by omega), pI_pA]; exact ih
      · rw [if_neg (by rw [s]; decide), if_neg (by rw [s]; decide), if_neg (by rw [s]; decide)] at ih
        rw [if_neg (by rw [s]; decide), if_neg (by rw [s]; decide)] at h5
        have := h3 s
        have e1 : nI a.1 + (-1) = nI (a.1 - 1) := by rw [add_m1, show (1 : Int32) = nI 1 from rfl, pk_sub (by omega)]
        have e2 : nI (a.1 - 1) - 1 = nI (a.1 - 2) := by rw [show (1 : Int32) = nI 1 from rfl, pk_sub (by omega)]; congr 1
        have lst : B_Wr_amount_15_180 hc d x1 x2 x3 x4 (nI a.1) (nI i) (S.1 16 i) (x_putA S 17 a.2) K := by
          refine b_Wr_amount_15_180 (br_f (nI_nlt (b := 2) (by omega) (by omega)) ?_)
          rw [e1, e2]
          refine ⟨vIn (by omega) (by omega), vIn (by omega) (by omega), ?_⟩
          rw [nCl (by omega), nCl (by omega), gA_s, ec]
          refine jC_op hop ⟨vIn (by omega) (by omega), b_Wr_amount_15_219 ?_⟩
          rw [nI_1, pI_pA]; exact ih
        rw [ec] at lst ⊢
        generalize arg i = o at hop lst ⊢
        rcases hop with rfl | rfl | rfl | rfl | rfl | rfl | rfl | rfl | rfl | rfl <;>
          exact br_t (by decide) (br_nf (by decide) (br_nf (by decide) (br_nf (by decide) (br_nf (by decide) (br_nf (by decide) lst)))))

theorem m_wearOf {n : Nat} {code : Nat → Int32} (hl : M.1 0 18 = nI n) (hh : M.1 0 66 = if n = 0 then 0 else 1) (hn : n ≤ 300) (hok : wOk n code (M.1 5) (M.1 6)) (x1 x2 x3 x4 : Int32) {K : Int32 → xSt → Prop}
    (H : ∀ f g, K (if n = 0 then (if 1 ≤ x1 then 1 else x1) else (if 0 ≤ wVal n (M.1 5) (M.1 6) x1 x2 x3 x4 then (if wVal n (M.1 5) (M.1 6) x1 x2 x3 x4 ≤ x1 then wVal n (M.1 5) (M.1 6) x1 x2 x3 x4 else x1) else 0)) (x_putA (x_putA M 9 f) 8 g)) : M_M_wearOf hm e x1 x2 x3 x4 M K := by
  by_cases h0 : n = 0
  · rw [if_pos h0] at hh
    refine e_M_wearOf (br_nt hh ?_)
    have H := H (M.1 9) (M.1 8)
    rw [pA_self, pA_self, if_pos h0] at H
    by_cases c : 1 ≤ x1
    · rw [if_pos c] at H; exact br_t c H
    · rw [if_neg c] at H; exact br_f c H
  · rw [if_neg h0] at hh
    refine e_M_wearOf (br_nf (by rw [hh]; decide) ?_)
    have e9 : x_putI (x_putI (x_putI (x_putI M 9 0 x1) 9 1 x2) 9 2 x3) 9 3 x4 = x_putA M 9 (upd (upd (upd (upd (M.1 9) 0 x1) 1 x2) 2 x3) 3 x4) := by
      rw [pI_A M, pI_pA, pI_pA, pI_pA]
    rw [e9]
    have ask : ∀ k, k < 4 → upd (upd (upd (upd (M.1 9) 0 x1) 1 x2) 2 x3) 3 x4 k = evA x1 x2 x3 x4 (nI k) := by
      intro k hk
      rcases (show k = 0 ∨ k = 1 ∨ k = 2 ∨ k = 3 by omega) with rfl | rfl | rfl | rfl <;> rfl
    generalize upd (upd (upd (upd (M.1 9) 0 x1) 1 x2) 2 x3) 3 x4 = fa at ask
    have H := H fa (fo (evF (M.1 5) (M.1 6) x1 x2 x3 x4) n (0, M.1 8)).2
    rw [if_neg h0, ← ev_any hok (by omega) x1 x2 x3 x4 (M.1 8)] at H
    have := lp_upI (B := fun i (a : Nat × (Nat → Int32)) => B_M_wearOf_53 hm e x1 (nI a.1) (nI i) (x_putA (x_putA M 9 fa) 8 a.2) K) (fun i a => a.1 = wDep (M.1 5) i) (evF (M.1 5) (M.1 6) x1 x2 x3 x4) n (fun i a hi h => ?_) (fun i a hi ha ih => ?_) (0, M.1 8) rfl (fun _ => b_M_wearOf_53 (br_t (by show M.1 0 18 ≤ _; rw [hl]; exact nI_le (Nat.le_refl _) (by omega)) ?_))
    · have q : x_putA (x_putA M 9 fa) 8 (M.1 8) = x_putA M 9 fa := pA_self (x_putA M 9 fa) 8
      rw [q] at this; exact this
    · show (evF (M.1 5) (M.1 6) x1 x2 x3 x4 i a).1 = if M.1 5 i = 0 ∨ M.1 5 i = 1 then wDep (M.1 5) i + 1 else if M.1 5 i = 2 then wDep (M.1 5) i else wDep (M.1 5) i - 1
      unfold evF
      by_cases c0 : M.1 5 i = 0
      · rw [if_pos c0, if_pos (Or.inl c0), h]
      · rw [if_neg c0]
        by_cases c1 : M.1 5 i = 1
        · rw [if_pos c1, if_pos (Or.inr c1), h]
        · have c01 : ¬ (M.1 5 i = 0 ∨ M.1 5 i = 1) := fun z => z.elim c0 c1
          rw [if_neg c1, if_neg c01]
          by_cases c2 : M.1 5 i = 2
          · rw [if_pos c2, if_pos c2, h]
          · rw [if_neg c2, if_neg c2, h]
    · obtain ⟨h1, h2, h3, h4⟩ := hok i hi
      have h5 : (if M.1 5 i = 0 ∨ M.1 5 i = 1 then wDep (M.1 5) i + 1 else if M.1 5 i = 2 then wDep (M.1 5) i else wDep (M.1 5) i - 1) ≤ 30 := h4
      have ci : (nI i).toNatClampNeg = i := nCl (by omega)
      have v3 : vp_in (nI i) 320 := vIn (by omega) (by omega)
      have g0 : ¬ (x_putA (x_putA M 9 fa) 8 a.2).1 0 18 ≤ nI i := by show ¬ M.1 0 18 ≤ _; rw [hl]; exact nI_ge hi (by omega)
      have ih : B_M_wearOf_53 hm e x1 (nI (evF (M.1 5) (M.1 6) x1 x2 x3 x4 i a).1) (nI (i + 1)) (x_putA (x_putA M 9 fa) 8 (evF (M.1 5) (M.1 6) x1 x2 x3 x4 i a).2) K := ih
      unfold evF at ih
      refine b_M_wearOf_53 (br_f g0 ⟨v3, ?_⟩)
      rw [ci, show (x_putA (x_putA M 9 fa) 8 a.2).1 5 i = M.1 5 i from rfl, show (x_putA (x_putA M 9 fa) 8 a.2).1 6 i = M.1 6 i from rfl, gA_s]
      have psh : ∀ v, a.1 < 32 → B_M_wearOf_53 hm e x1 (nI (a.1 + 1)) (nI (i + 1)) (x_putA (x_putA M 9 fa) 8 (upd a.2 a.1 v)) K → B_M_wearOf_121 hm e x1 (nI a.1) (nI i) v (nI a.1) (x_putA (x_putA M 9 fa) 8 a.2) K := by
        intro v ha h
        refine b_M_wearOf_121 ⟨vIn (by omega) (by omega), b_M_wearOf_209 ?_⟩
        rw [nI_1, nI_1, nCl (by omega), pI_pA]; exact h
      rcases h1 with ⟨s, k, hk, ea, ec⟩ | ⟨s, q⟩ | ⟨s, ec⟩ | ⟨s, ec, hop⟩
      · rw [if_pos s] at ih
        rw [if_pos (Or.inl s)] at h5
        refine br_t s (b_M_wearOf_83 ⟨v3, br_nt (by rw [ci]; exact s) ⟨v3, ?_⟩⟩)
        rw [ci]; exact psh _ (by omega) ih
      · rw [if_neg (by rw [s]; decide), if_pos s] at ih
        rw [if_pos (Or.inr s)] at h5
        obtain ⟨k, hk, ea⟩ : ∃ k, k < 4 ∧ M.1 6 i = nI k := by
          rcases q with ⟨ea, -⟩ | ⟨ea, -⟩ | ⟨ea, -⟩ | ⟨ea, -⟩
          · exact ⟨0, by omega, ea⟩
          · exact ⟨1, by omega, ea⟩
          · exact ⟨2, by omega, ea⟩
          · exact ⟨3, by omega, ea⟩
        refine br_f (by rw [s]; decide) ⟨v3, br_nt s (b_M_wearOf_83 ⟨v3, br_nf (by rw [ci]; show ¬ M.1 5 i = 0; rw [s]; decide) ⟨v3, ?_⟩⟩)⟩
        rw [ci]
        have ea2 : (x_putA (x_putA M 9 fa) 8 a.2).1 6 i = nI k := ea
        rw [ea2]
        refine ⟨vIn (by omega) (by omega), ?_⟩
        rw [nCl (by omega), show (x_putA (x_putA M 9 fa) 8 a.2).1 9 k = fa k by rw [gA_n _ _ (by decide), gA_s], ask k hk]
        rw [ea] at ih
        exact psh _ (by omega) ih
      · rw [if_neg (by rw [s]; decide), if_neg (by rw [s]; decide), if_pos s] at ih
        rw [if_neg (by rw [s]; decide), if_pos s] at h5
        have := h2 s
        have e1 : nI a.1 - 1 = nI (a.1 - 1) := by rw [show (1 : Int32) = nI 1 from rfl, pk_sub (by omega)]
        refine br_f (by rw [s]; decide) ⟨v3, br_nf (by rw [s]; decide) ⟨v3, br_nt s ?_⟩⟩
        rw [e1]
        have v : vp_in (nI (a.1 - 1)) 64 := vIn (by omega) (by omega)
        refine ⟨v, ?_⟩
        rw [nCl (by omega)]
        by_cases z : a.2 (a.1 - 1) = 0
        · rw [bi_pos z] at ih
          refine br_nt z (b_M_wearOf_164 (truth1 ⟨v, b_M_wearOf_209 ?_⟩))
          rw [nI_1, nCl (by omega), pI_pA]; exact ih
        · rw [bi_neg z] at ih
          refine br_nf z (b_M_wearOf_164 (truth0 ⟨v, b_M_wearOf_209 ?_⟩))
          rw [nI_1, nCl (by omega), pI_pA]; exact ih
      · rw [if_neg (by rw [s]; decide), if_neg (by rw [s]; decide), if_neg (by rw [s]; decide)] at ih
        rw [if_neg (by rw [s]; decide), if_neg (by rw [s]; decide)] at h5
        have := h3 s
        have e1 : nI a.1 + (-1) = nI (a.1 - 1) := by rw [add_m1, show (1 : Int32) = nI 1 from rfl, pk_sub (by omega)]
        have e2 : nI (a.1 - 1) - 1 = nI (a.1 - 2) := by rw [show (1 : Int32) = nI 1 from rfl, pk_sub (by omega)]; congr 1
        refine br_f (by rw [s]; decide) ⟨v3, br_nf (by rw [s]; decide) ⟨v3, br_nf (by rw [s]; decide) ⟨v3, ?_⟩⟩⟩
        rw [e1, e2]
        refine ⟨vIn (by omega) (by omega), vIn (by omega) (by omega), ?_⟩
        rw [nCl (by omega), nCl (by omega)]
        refine jM_op hop ⟨vIn (by omega) (by omega), b_M_wearOf_209 ?_⟩
        rw [nI_1, pI_pA]; exact ih
    · rw [gA_s]
      generalize (fo (evF (M.1 5) (M.1 6) x1 x2 x3 x4) n (0, M.1 8)).2 0 = v at H ⊢
      by_cases c : 0 ≤ v
      · rw [if_pos c] at H
        refine br_t c ?_
        by_cases c2 : v ≤ x1
        · rw [if_pos c2] at H; exact br_t c2 H
        · rw [if_neg c2] at H; exact br_f c2 H
      · rw [if_neg c] at H; exact br_f c H
-- what of a thread goes
abbrev clmp (x v : Int32) : Int32 := if 0 < (if x < v then x else v) then (if x < v then x else v) else 0
theorem clmp_N (t : Nat) (ht : t < 2147483648) (v : Int32) : ∃ c, c ≤ t ∧ clmp (nI t) v = nI c := by
  show ∃ c, c ≤ t ∧ (if 0 < (if nI t < v then nI t else v) then (if nI t < v then nI t else v) else 0) = nI c
  by_cases c1 : nI t < v
  · rw [if_pos c1]
    by_cases c2 : 0 < nI t
    · rw [if_pos c2]; exact ⟨t, Nat.le_refl _, rfl⟩
    · rw [if_neg c2]; exact ⟨0, by omega, rfl⟩
  · rw [if_neg c1]
    by_cases c2 : 0 < v
    · rw [if_pos c2]
      obtain ⟨j, hj, rfl⟩ := nI_of (x := v) (fun z => by rw [Int32.lt_iff_toInt_lt] at z c2; omega)
      refine ⟨j, ?_, rfl⟩
      rw [nLt ht hj] at c1; omega
    · rw [if_neg c2]; exact ⟨0, by omega, rfl⟩
theorem clmp_M (n t : Nat) (ht : t < 2147483648) (w : Int32) : (if n = 0 then (if 1 ≤ nI t then 1 else nI t) else (if 0 ≤ w then (if w ≤ nI t then w else nI t) else 0)) = clmp (nI t) (if n = 0 then 1 else w) := by
  have h0 := nI_toInt ht
  have e1 : (1 : Int32).toInt = 1 := by decide
  have e0 : (0 : Int32).toInt = 0 := by decide
  by_cases c : n = 0
  · rw [if_pos c, if_pos c]
    show _ = (if 0 < (if nI t < 1 then nI t else 1) then (if nI t < 1 then nI t else 1) else 0)
    by_cases c1 : 1 ≤ nI t
    · have : ¬ nI t < 1 := fun z => (nle_lt.mpr z) c1
      rw [if_pos c1, if_neg this, if_pos (by decide)]
    · have c2 : nI t < 1 := nle_lt.mp c1
      have ht0 : t = 0 := by rw [Int32.lt_iff_toInt_lt, h0, e1] at c2; omega
      subst ht0
      rfl
  · rw [if_neg c, if_neg c]
    show _ = (if 0 < (if nI t < w then nI t else w) then (if nI t < w then nI t else w) else 0)
    by_cases c1 : 0 ≤ w
    · rw [if_pos c1]
      by_cases c2 : w ≤ nI t
      · have : ¬ nI t < w := fun z => (nle_lt.mpr z) c2
        rw [if_pos c2, if_neg this]
        by_cases c3 : 0 < w
        · rw [if_pos c3]
        · rw [if_neg c3]
          rw [Int32.le_iff_toInt_le, e0] at c1
          rw [Int32.lt_iff_toInt_lt, e0] at c3
          exact i32 (by rw [e0]; omega)
      · have c4 : nI t < w := nle_lt.mp c2
        rw [if_neg c2, if_pos c4]
        by_cases c3 : 0 < nI t
        · rw [if_pos c3]
        · rw [if_neg c3]
          rw [Int32.lt_iff_toInt_lt, e0, h0] at c3
          have : t = 0 := by omega
          subst this; rfl
    · rw [if_neg c1]
      have c2 : w < 0 := nle_lt.mp c1
      have c4 : ¬ nI t < w := by rw [Int32.lt_iff_toInt_lt, h0]; rw [Int32.lt_iff_toInt_lt, e0] at c2; omega
      rw [if_neg c4, if_neg (by rw [Int32.lt_iff_toInt_lt, e0]; rw [Int32.lt_iff_toInt_lt, e0] at c2; omega)]
end
