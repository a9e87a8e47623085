def J1 (k : Nat) (h : Hs) : Prop := k = 0 → h = hF1
theorem st1_of {f g : Hs → Option (Int32 × Hs)} (e : Tw f g) : St1 1 J1 f g := by
  intro k h hk hj
  have h0 : h = hF1 := hj (by omega)
  obtain ⟨r, h1, h2, e1, e2⟩ := e
  rw [h0]
  exact ⟨r, h1, h2, e1, e2, fun q => absurd q (Nat.succ_ne_zero k)⟩
theorem fw_thing (p1 p2 p3 p4 : Int32) : Tw (fun h => fX11_thing nN h 0 p1 p2 p3 p4) (fun h => fX12_thing nN h 29 p1 p2 p3 p4) := by
  obtain ⟨a, h1, h2, e1, e2, -⟩ := t_thing nN_ok Sk_F1 F_z FZ_F1.th F_sc FZ_F1.ro (nd := 0) (dA := zN) F_ti F_can p1 p2 p3 p4
  exact ⟨a, h1, h2, e1, e2⟩
theorem fw_ofThing (p1 p2 : Int32) : Tw (fun h => fX11_ofThing nN h 0 p1 p2) (fun h => fX12_ofThing nN h 29 p1 p2) := by
  obtain ⟨a, e1, e2⟩ := t_ofThing nN_ok Sk_F1 FZ_F1.th FZ_F1.dr FZ_F1.ro F_ti p1 p2
  exact ⟨a, _, _, e1, e2⟩
theorem fw_on (p1 : Int32) : Tw (fun h => fX11_on nN h 0 p1) (fun h => fX12_on nN h 29 p1) := by
  obtain ⟨a, e1, e2⟩ := t_on nN_ok Sk_F1 FZ_F1.th p1
  exact ⟨a, _, _, e1, e2⟩
theorem fw_drum (p1 : Int32) : Tw (fun h => fX11_drum nN h 0 p1) (fun h => fX12_drum nN h 29 p1) := by
  obtain ⟨a, h1, h2, _, _, _, e1, e2, -⟩ := t_drum (N := nN) Sk_F1 F_z FZ_F1.dr F_can p1
  exact ⟨a, h1, h2, e1, e2⟩
theorem fw_rope (p1 p2 p3 : Int32) : Tw (fun h => fX11_rope nN h 0 p1 p2 p3) (fun h => fX12_rope nN h 29 p1 p2 p3) := by
  obtain ⟨a, h1, h2, e1, e2, -⟩ := t_rope (N := nN) Sk_F1 F_z FZ_F1.th FZ_F1.ro (nd := 0) (dA := zN) F_ti F_can F_gone p1 p2 p3
  exact ⟨a, h1, h2, e1, e2⟩
theorem fw_ofRope (p1 p2 : Int32) : Tw (fun h => fX11_ofRope nN h 0 p1 p2) (fun h => fX12_ofRope nN h 29 p1 p2) := by
  obtain ⟨a, e1, e2⟩ := t_ofRope (N := nN) Sk_F1 FZ_F1.th FZ_F1.dr FZ_F1.ro F_ti p1 p2
  exact ⟨a, _, _, e1, e2⟩
theorem fw_tie (p1 p2 : Int32) : Tw (fun h => fX11_tie nN h 0 p1 p2) (fun h => fX12_tie nN h 29 p1 p2) := by
  obtain ⟨a, h1, h2, _, _, _, _, e1, e2, -⟩ := t_tie nN_ok Sk_F1 F_z FZ_F1.th FZ_F1.dr FZ_F1.ro F_ti F_can p1 p2
  exact ⟨a, h1, h2, e1, e2⟩
theorem fw_untie (p1 : Int32) : Tw (fun h => fX11_untie nN h 0 p1) (fun h => fX12_untie nN h 29 p1) := by
  obtain ⟨a, h1, h2, _, _, e1, e2, -⟩ := t_untie (N := nN) Sk_F1 F_z FZ_F1.th (nd := 0) (by omega) FZ_F1.ro F_ti F_can (fun r hr => absurd hr (Nat.not_lt_zero r)) p1
  exact ⟨a, h1, h2, e1, e2⟩
theorem fw_weight (p1 p2 : Int32) : Tw (fun h => fX11_weight nN h 0 p1 p2) (fun h => fX12_weight nN h 29 p1 p2) := by
  obtain ⟨a, h1, h2, e1, e2, -⟩ := t_weight (N := nN) Sk_F1 F_cnt F_can p1 p2
  exact ⟨a, h1, h2, e1, e2⟩
theorem fw_bound (p1 : Int32) : Tw (fun h => fX11_bound nN h 0 p1) (fun h => fX12_bound nN h 29 p1) := by
  obtain ⟨a, h1, h2, e1, e2, -⟩ := t_bound (N := nN) Sk_F1 F_bnd p1
  exact ⟨a, h1, h2, e1, e2⟩
theorem fw_pull : Tw (fun h => fX11_pull nN h 0 ) (fun h => fX12_pull nN h 29 ) := by
  obtain ⟨a, h1, e1, e2, -⟩ := t_pull nN_ok Sk_F1 F_z FZ_F1.th FZ_F1.dr FZ_F1.ro F_ti F_cnt (fun r hr => absurd hr (Nat.not_lt_zero r)) (fun r hr => absurd hr (Nat.not_lt_zero r)) 
  exact ⟨a, h1, h1, e1, e2⟩
theorem fw_turn (p1 : Int32) : Tw (fun h => fX11_turn nN h 0 p1) (fun h => fX12_turn nN h 29 p1) := by
  obtain ⟨a, h1, h2, e1, e2⟩ := z_turns nN_ok FZ_F1 p1
  exact ⟨a, h1, h2, e1, e2⟩
theorem fw_stopped (p1 : Int32) : Tw (fun h => fX11_stopped nN h 0 p1) (fun h => fX12_stopped nN h 29 p1) := by
  obtain ⟨a, e1, e2⟩ := t_stopped (N := nN) Sk_F1 F_stp p1
  exact ⟨a, _, _, e1, e2⟩
theorem fw_free (p1 : Int32) : Tw (fun h => fX11_free nN h 0 p1) (fun h => fX12_free nN h 29 p1) := by
  obtain ⟨a, h1, h2, e1, e2⟩ := z_frees nN_ok FZ_F1 p1
  exact ⟨a, h1, h2, e1, e2⟩
theorem fw_snap (p1 : Int32) : Tw (fun h => fX11_snap nN h 0 p1) (fun h => fX12_snap nN h 29 p1) := by
  obtain ⟨a, h1, h2, e1, e2⟩ := z_snaps (N := nN) FZ_F1 p1
  exact ⟨a, h1, h2, e1, e2⟩
theorem fw_hold (p1 : Int32) : Tw (fun h => fX11_hold nN h 0 p1) (fun h => fX12_hold nN h 29 p1) := by
  obtain ⟨a, h1, h2, e1, e2, -⟩ := t_hold nN_ok Sk_F1 F_cat p1
  exact ⟨a, h1, h2, e1, e2⟩
theorem fw_scene (p1 p2 p3 : Int32) : Tw (fun h => fX11_scene nN h 0 p1 p2 p3) (fun h => fX12_scene nN h 29 p1 p2 p3) := by
  obtain ⟨a, h1, h2, _, _, e1, e2, -⟩ := t_scene (N := nN) Sk_F1 F_z FZ_F1.th F_sc p1 p2 p3
  exact ⟨a, h1, h2, e1, e2⟩
theorem fw_change (p1 p2 : Int32) : Tw (fun h => fX11_change nN h 0 p1 p2) (fun h => fX12_change nN h 29 p1 p2) := by
  obtain ⟨a, h1, h2, e1, e2⟩ := z_changes nN_ok FZ_F1 p1 p2
  exact ⟨a, h1, h2, e1, e2⟩
theorem fw_told (p1 p2 : Int32) : Tw (fun h => fX11_told nN h 0 p1 p2) (fun h => fX12_told nN h 29 p1 p2) := by
  obtain ⟨a, e1, e2⟩ := t_told (N := nN) Sk_F1 FZ_F1.th F_chg p1 p2
  exact ⟨a, _, _, e1, e2⟩
theorem fw_work (p1 : Int32) : Tw (fun h => fX11_work nN h 0 p1) (fun h => fX12_work nN h 29 p1) := by
  obtain ⟨a, e1, e2⟩ := t_work nN_ok Sk_F1 (nt := 0) (by omega) F_chg p1
  exact ⟨a, _, _, e1, e2⟩
theorem fw_men (p1 : Int32) : Tw (fun h => fX11_men nN h 0 p1) (fun h => fX12_men nN h 29 p1) := by
  obtain ⟨a, h1, h2, e1, e2⟩ := z_mens (N := nN) FZ_F1 F_as1 F_as2 p1
  exact ⟨a, h1, h2, e1, e2⟩
theorem fw_feed (p1 p2 : Int32) : Tw (fun h => fX11_feed nN h 0 p1 p2) (fun h => fX12_feed nN h 29 p1 p2) := by
  obtain ⟨a, h1, h2, _, _, e1, e2, -⟩ := t_feed nN_ok Sk_F1 F_tape p1 p2
  exact ⟨a, h1, h2, e1, e2⟩
theorem fw_play : Tw (fun h => fX11_play nN h 0 ) (fun h => fX12_play nN h 29 ) := by
  obtain ⟨a, h1, h2, e1, e2⟩ := z_play 
  exact ⟨a, h1, h2, e1, e2⟩
theorem fw_back : Tw (fun h => fX11_back nN h 0 ) (fun h => fX12_back nN h 29 ) := by
  obtain ⟨a, h1, h2, e1, e2⟩ := z_back 
  exact ⟨a, h1, h2, e1, e2⟩
theorem fw_candle (p1 : Int32) : Tw (fun h => fX11_candle nN h 0 p1) (fun h => fX12_candle nN h 29 p1) := by
  obtain ⟨a, h1, h2, e1, e2, -⟩ := t_candle (N := nN) Sk_F1 F_cand p1
  exact ⟨a, h1, h2, e1, e2⟩
theorem fw_minutes (p1 : Int32) : Tw (fun h => fX11_minutes nN h 0 p1) (fun h => fX12_minutes nN h 29 p1) := by
  obtain ⟨a, h1, h2, e1, e2, -⟩ := t_minutes (N := nN) Sk_F1 F_cand p1
  exact ⟨a, h1, h2, e1, e2⟩
theorem fw_trim (p1 : Int32) : Tw (fun h => fX11_trim nN h 0 p1) (fun h => fX12_trim nN h 29 p1) := by
  obtain ⟨a, h1, h2, e1, e2, -⟩ := t_trim nN_ok Sk_F1 F_cand p1
  exact ⟨a, h1, h2, e1, e2⟩
theorem fw_light (p1 : Int32) : Tw (fun h => fX11_light nN h 0 p1) (fun h => fX12_light nN h 29 p1) := by
  obtain ⟨a, h1, h2, e1, e2, -⟩ := t_light nN_ok Sk_F1 F_cand p1
  exact ⟨a, h1, h2, e1, e2⟩
theorem fw_flat (p1 p2 : Int32) : Tw (fun h => fX11_flat nN h 0 p1 p2) (fun h => fX12_flat nN h 29 p1 p2) := by
  obtain ⟨a, h1, h2, e1, e2, -⟩ := t_flat (N := nN) Sk_F1 F_z F_stk p1 p2
  exact ⟨a, h1, h2, e1, e2⟩
theorem fw_want (p1 p2 : Int32) : Tw (fun h => fX11_want nN h 0 p1 p2) (fun h => fX12_want nN h 29 p1 p2) := by
  obtain ⟨a, h1, h2, e1, e2, -⟩ := t_want (N := nN) Sk_F1 F_z F_stk p1 p2
  exact ⟨a, h1, h2, e1, e2⟩
theorem fw_paint : Tw (fun h => fX11_paint nN h 0 ) (fun h => fX12_paint nN h 29 ) := by
  obtain ⟨a, h1, h2, e1, e2⟩ := z_paint 
  exact ⟨a, h1, h2, e1, e2⟩
theorem fw_given (p1 : Int32) : Tw (fun h => fX11_given nN h 0 p1) (fun h => fX12_given nN h 29 p1) := by
  obtain ⟨a, e1, e2⟩ := t_given (N := nN) Sk_F1 F_stk p1
  exact ⟨a, _, _, e1, e2⟩
theorem fw_count (p1 : Int32) : Tw (fun h => fX11_count nN h 0 p1) (fun h => fX12_count nN h 29 p1) := by
  obtain ⟨a, e1, e2⟩ := t_count nN_ok Sk_F1 FZ_F1.th FZ_F1.dr FZ_F1.ro F_ti F_cand F_stk F_tape F_sh.1 F_sh.2.1 F_sh.2.2.1 F_sh.2.2.2 p1
  exact ⟨a, _, _, e1, e2⟩
theorem law_p1 : LawOK nN 1 J1 := ⟨fun k h _ q => absurd q (Nat.succ_ne_zero k), (fun p1 p2 p3 p4 => st1_of (fw_thing p1 p2 p3 p4)), (fun p1 p2 => st1_of (fw_ofThing p1 p2)), (fun p1 => st1_of (fw_on p1)), (fun p1 => st1_of (fw_drum p1)), (fun p1 p2 p3 => st1_of (fw_rope p1 p2 p3)), (fun p1 p2 => st1_of (fw_ofRope p1 p2)), (fun p1 p2 => st1_of (fw_tie p1 p2)), (fun p1 => st1_of (fw_untie p1)), (fun p1 p2 => st1_of (fw_weight p1 p2)), (fun p1 => st1_of (fw_bound p1)), (st1_of (fw_pull )), (fun p1 => st1_of (fw_turn p1)), (fun p1 => st1_of (fw_stopped p1)), (fun p1 => st1_of (fw_free p1)), (fun p1 => st1_of (fw_snap p1)), (fun p1 => st1_of (fw_hold p1)), (fun p1 p2 p3 => st1_of (fw_scene p1 p2 p3)), (fun p1 p2 => st1_of (fw_change p1 p2)), (fun p1 p2 => st1_of (fw_told p1 p2)), (fun p1 => st1_of (fw_work p1)), (fun p1 => st1_of (fw_men p1)), (fun p1 p2 => st1_of (fw_feed p1 p2)), (st1_of (fw_play )), (st1_of (fw_back )), (fun p1 => st1_of (fw_candle p1)), (fun p1 => st1_of (fw_minutes p1)), (fun p1 => st1_of (fw_trim p1)), (fun p1 => st1_of (fw_light p1)), (fun p1 p2 => st1_of (fw_flat p1 p2)), (fun p1 p2 => st1_of (fw_want p1 p2)), (st1_of (fw_paint )), (fun p1 => st1_of (fw_given p1)), (fun p1 => st1_of (fw_count p1))⟩
