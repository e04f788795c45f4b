/-! RULES OF THE HEAP -/
abbrev vT (ci : Nat) : u_T := (vwCl.getD ci (RX0, TX0, 3)).2.1
abbrev vC (ci : Nat) : String := (vwCl.getD ci (RX0, TX0, 3)).1
abbrev vN (ci : Nat) : Nat := (vwCl.getD ci (RX0, TX0, 3)).2.2
theorem vw_at {ci : Nat} (h : ci < 12) : vwCl[ci]? = some (vC ci, vT ci, vN ci) := by
  have : ci < vwCl.length := h
  simp only [vC, vT, vN, List.getD_eq_getElem?_getD, List.getElem?_eq_getElem this, Option.getD_some]
def vwsB (ci : Nat) : Bool := (u_ws (vC ci) (vT ci) (vN ci)).all (fun w => gw.contains w)
set_option maxRecDepth 100000 in
theorem vws_all : (List.range 12).all vwsB = true := by decide +kernel
theorem vws_in {ci : Nat} (h : ci < 12) : ∀ w ∈ u_ws (vC ci) (vT ci) (vN ci), w ∈ gw := by
  have h1 := List.all_eq_true.mp vws_all ci (List.mem_range.mpr h)
  intro w hw
  have h2 := List.all_eq_true.mp h1 w hw
  exact List.contains_iff_mem.mp h2
theorem vty_ok {ci : Nat} (h : ci < 12) : ∀ k, k < vN ci → parseFieldDescriptor (vT ci k).2.2.1 = some (ph_fty ci k) := by
  match ci, h with
  | 0, _ => exact tyX0_ok
  | 1, _ => exact tyX1_ok
  | 2, _ => exact tyX2_ok
  | 3, _ => exact tyX3_ok
  | 4, _ => exact tyX4_ok
  | 5, _ => exact tyX5_ok
  | 6, _ => exact tyX6_ok
  | 7, _ => exact tyX7_ok
  | 8, _ => exact tyX8_ok
  | 9, _ => exact tyX9_ok
  | 10, _ => exact tyX10_ok
  | 11, _ => exact tyX11_ok
theorem vnm_ok {ci : Nat} (h : ci < 12) : ∀ a, a < vN ci → ∀ b, b < vN ci → a ≠ b → (vT ci a).2.1 ≠ (vT ci b).2.1 := by
  match ci, h with
  | 0, _ => exact nmX0
  | 1, _ => exact nmX1
  | 2, _ => exact nmX2
  | 3, _ => exact nmX3
  | 4, _ => exact nmX4
  | 5, _ => exact nmX5
  | 6, _ => exact nmX6
  | 7, _ => exact nmX7
  | 8, _ => exact nmX8
  | 9, _ => exact nmX9
  | 10, _ => exact nmX10
  | 11, _ => exact nmX11
