/-! ===== what stands of the fresh objects ===== -/
theorem F_cand : ICand hF1 := ⟨0, 0, zI, zI, ⟨by decide +kernel, by decide +kernel, by decide +kernel, by decide +kernel⟩, fun i hi => absurd hi (Nat.not_lt_zero i), by omega, by omega, by omega, fun i hi => absurd hi (Nat.not_lt_zero i)⟩
theorem F_stk : IStk hF1 := ⟨0, 0, 0, zN, zN, zI, zI, zI, zI, zI, zI, zI, ⟨by decide +kernel, by decide +kernel, by decide +kernel, by decide +kernel, by decide +kernel, by decide +kernel⟩, by omega, by omega, by omega, fun i hi => absurd hi (Nat.not_lt_zero i), fun i hi => absurd hi (Nat.not_lt_zero i), fun i hi => absurd hi (Nat.not_lt_zero i)⟩
theorem F_bnd : IBnd hF1 := ⟨99999, FZ_F1.2.2.2.2.1, FZ_F1.2.2.2.2.2, by omega, by omega⟩
theorem F_cnt : ICnt hF1 := ⟨zI, fun i hi => ⟨(FZ_F1.2.2.2.1 i hi).1, (FZ_F1.2.2.2.1 i hi).2, by show (-9999 : Int) ≤ 0; omega, by show (0 : Int) ≤ 9999; omega⟩⟩
theorem F_can : ICan hF1 := ⟨0, by decide +kernel, by decide +kernel, by omega⟩
theorem F_catA : ∀ l, l < 16 → aI hF1 21 l = iI 0 ∧ aI hF1 46 l = iI 0 := by decide +kernel
theorem F_cat : ICat hF1 := ⟨zN, zI, fun l hl => ⟨(F_catA l hl).1, (F_catA l hl).2, Nat.zero_le 5, fun k hk => absurd hk (Nat.not_lt_zero k)⟩⟩
theorem F_tape : RTape hF1 0 zI := ⟨by decide +kernel, by decide +kernel, by omega, fun i hi => absurd hi (Nat.not_lt_zero i)⟩
theorem F_sc : RSc hF1 0 zN zN zI zI (fun _ _ => 0) := ⟨fun i hi => absurd hi (Nat.not_lt_zero i), fun i j hi => absurd hi (Nat.not_lt_zero i)⟩
theorem F_stp : IStp hF1 := ⟨by decide +kernel, by decide +kernel, by decide +kernel⟩
theorem F_as1 : gI hF1 104 25 = iI 0 := by decide +kernel
theorem F_as2 : gI hF1 1229 29 = iI 0 := by decide +kernel
theorem F_chg : RChg hF1 0 0 false false zI zI zI := ⟨⟨F_as1, F_as2⟩, fun q => by cases q⟩
theorem F_gone : ∀ r, 0 ≤ r → r < 40 → aI hF1 44 r = iI 0 := by
  have h : ∀ r, r < 40 → aI hF1 44 r = iI 0 := by decide +kernel
  exact fun r _ hr => h r hr
theorem F_sh : gI hF1 511 14 = 0 ∧ gI hF1 1221 29 = 0 ∧ gI hF1 512 14 = 0 ∧ gI hF1 1222 29 = 0 := ⟨by decide +kernel, by decide +kernel, by decide +kernel, by decide +kernel⟩
theorem F_ti : RTi hF1 0 0 0 zN zN zN zN zO zO zI zI := FZ.ti
theorem F_z : 70 ≤ sz hF1 := FZ_F1.2.1
theorem nN_ok : 100000000 ≤ nN := Nat.le_refl _
abbrev Tw (f g : Hs → Option (Int32 × Hs)) : Prop := ∃ r h1 h2, f hF1 = some (r, h1) ∧ g h1 = some (r, h2)
