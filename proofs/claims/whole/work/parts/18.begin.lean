/-! pure: the relation at the law's entry -/
theorem HI_start {WR : MS → MS → FS → Prop} (h : WR τ0 σ0 (μ0 8)) : HI WR (fun _ => τ0) 1 (fun k => k + 2) (fun _ => 0) υ0 (fun _ => σ0) (fun _ => 0) μ0 :=
  ⟨⟨0, by decide, rfl, rfl, fun k hk => absurd hk (by omega)⟩, rfl, fun _ _ => Nat.zero_lt_one, fun j hj => ⟨Nat.le_add_left 2 j, by show j + 2 < 10; omega⟩, fun i j _ _ hij => Nat.add_right_cancel (show i + 2 = j + 2 from hij), h, 0, by decide, rfl, rfl, fun j hj => absurd hj (by omega)⟩
