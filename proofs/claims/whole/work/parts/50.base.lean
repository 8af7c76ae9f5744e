/-! the programs alone: reads of writes -/
section
variable {α β γ : Type} {Y : bk_Lay} {V : bk_Val} {a b k j z : Nat} {x : Int32} {y : Int64} {r : Option Nat} {sh : Nat × Nat}
theorem pk_ck {c : Prop} [Decidable c] {o : Option α} (h : c) : bk_ck c o = o := if_pos h
theorem pk_let {f : α → Option β} {o : α} : bk_let o f = f o := rfl
theorem pk_bd2 {f : α → β → Option γ} {o : α} {u : β} : bk_bd2 (some (o, u)) f = f o u := rfl
theorem pk_rI_wI : bk_rI (bk_wI V a k x) b j = if b = a ∧ j = k then x else bk_rI V b j := rfl
theorem pk_rI_wL : bk_rI (bk_wL V a k y) b j = bk_rI V b j := rfl
theorem pk_rL_wI : bk_rL (bk_wI V a k x) b j = bk_rL V b j := rfl
theorem pk_rL_wL : bk_rL (bk_wL V a k y) b j = if b = a ∧ j = k then y else bk_rL V b j := rfl
theorem pk_sh_wR : bk_sh (bk_wR Y a k r) b = bk_sh Y b := rfl
theorem pk_sz_wR : bk_sz (bk_wR Y a k r) = bk_sz Y := rfl
theorem pk_rR_wR : bk_rR (bk_wR Y a k r) b j = if b = a ∧ j = k then r else bk_rR Y b j := rfl
theorem pk_sz_nw : bk_sz (bk_nw Y sh) = bk_sz Y + 1 := rfl
theorem pk_sh_nw : bk_sh (bk_nw Y sh) b = if b = bk_sz Y then sh else bk_sh Y b := rfl
theorem pk_rR_nw : bk_rR (bk_nw Y sh) b j = if b = bk_sz Y then none else bk_rR Y b j := by
  show va_up Y.2.1 Y.2.2 (fun _ => none) b j = _
  unfold va_up
  by_cases h : b = Y.2.2
  · rw [if_pos h, if_pos (show b = bk_sz Y from h)]
  · rw [if_neg h, if_neg (show ¬ b = bk_sz Y from h)]; rfl
theorem pk_rI_nz : bk_rI (bk_nz Y V) b j = if b = bk_sz Y then 0 else bk_rI V b j := by
  show va_up V.1 Y.2.2 (fun _ => 0) b j = _
  unfold va_up
  by_cases h : b = Y.2.2
  · rw [if_pos h, if_pos (show b = bk_sz Y from h)]
  · rw [if_neg h, if_neg (show ¬ b = bk_sz Y from h)]; rfl
theorem pk_rL_nz : bk_rL (bk_nz Y V) b j = if b = bk_sz Y then 0 else bk_rL V b j := by
  show va_up V.2 Y.2.2 (fun _ => 0) b j = _
  unfold va_up
  by_cases h : b = Y.2.2
  · rw [if_pos h, if_pos (show b = bk_sz Y from h)]
  · rw [if_neg h, if_neg (show ¬ b = bk_sz Y from h)]; rfl
theorem pk_rI_nc : bk_rI (bk_nc Y V a) b j = if b = bk_sz Y then 0 else bk_rI V b j := by
  show va_up V.1 Y.2.2 (fun _ => 0) b j = _
  unfold va_up
  by_cases h : b = Y.2.2
  · rw [if_pos h, if_pos (show b = bk_sz Y from h)]
  · rw [if_neg h, if_neg (show ¬ b = bk_sz Y from h)]; rfl
theorem pk_rL_nc : bk_rL (bk_nc Y V a) b j = if b = bk_sz Y then bk_rL V a j else bk_rL V b j := by
  show va_up V.2 Y.2.2 (V.2 a) b j = _
  unfold va_up
  by_cases h : b = Y.2.2
  · rw [if_pos h, if_pos (show b = bk_sz Y from h)]; rfl
  · rw [if_neg h, if_neg (show ¬ b = bk_sz Y from h)]; rfl
end
