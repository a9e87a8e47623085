theorem st0_of {K : Nat} {J : Nat → Hs → Prop} {f g : Hs → Option (Int32 × Hs)} (e : St1 K J f g) : St0 K J f g := fun k h hk hj => by
  obtain ⟨r, h1, h2, e1, e2, e3⟩ := e k h hk hj
  exact ⟨r, r, h1, h2, e1, e2, e3⟩
theorem s_thing (p1 p2 p3 p4 : Int32) : St1 512 Inv (fun h => fX11_thing nN h 0 p1 p2 p3 p4) (fun h => fX12_thing nN h 29 p1 p2 p3 p4) := fun k h hk hI => i_thing nN_ok hI p1 p2 p3 p4
theorem s_ofThing (p1 p2 : Int32) : St1 512 Inv (fun h => fX11_ofThing nN h 0 p1 p2) (fun h => fX12_ofThing nN h 29 p1 p2) := fun k h hk hI => i_ofThing nN_ok hI p1 p2
theorem s_on (p1 : Int32) : St1 512 Inv (fun h => fX11_on nN h 0 p1) (fun h => fX12_on nN h 29 p1) := fun k h hk hI => i_on nN_ok hI p1
theorem s_drum (p1 : Int32) : St1 512 Inv (fun h => fX11_drum nN h 0 p1) (fun h => fX12_drum nN h 29 p1) := fun k h hk hI => i_drum nN_ok hI p1
theorem s_rope (p1 p2 p3 : Int32) : St1 512 Inv (fun h => fX11_rope nN h 0 p1 p2 p3) (fun h => fX12_rope nN h 29 p1 p2 p3) := fun k h hk hI => i_rope nN_ok hI p1 p2 p3
theorem s_ofRope (p1 p2 : Int32) : St1 512 Inv (fun h => fX11_ofRope nN h 0 p1 p2) (fun h => fX12_ofRope nN h 29 p1 p2) := fun k h hk hI => i_ofRope nN_ok hI p1 p2
theorem s_tie (p1 p2 : Int32) : St1 512 Inv (fun h => fX11_tie nN h 0 p1 p2) (fun h => fX12_tie nN h 29 p1 p2) := fun k h hk hI => i_tie nN_ok hI p1 p2
theorem s_untie (p1 : Int32) : St1 512 Inv (fun h => fX11_untie nN h 0 p1) (fun h => fX12_untie nN h 29 p1) := fun k h hk hI => i_untie nN_ok (by omega) hI p1
theorem s_weight (p1 p2 : Int32) : St1 512 Inv (fun h => fX11_weight nN h 0 p1 p2) (fun h => fX12_weight nN h 29 p1 p2) := fun k h hk hI => i_weight nN_ok hI p1 p2
theorem s_bound (p1 : Int32) : St1 512 Inv (fun h => fX11_bound nN h 0 p1) (fun h => fX12_bound nN h 29 p1) := fun k h hk hI => i_bound nN_ok hI p1
theorem s_pull : St1 512 Inv (fun h => fX11_pull nN h 0 ) (fun h => fX12_pull nN h 29 ) := fun k h hk hI => i_pull nN_ok (by omega) hI 
theorem s_turn (p1 : Int32) : St1 512 Inv (fun h => fX11_turn nN h 0 p1) (fun h => fX12_turn nN h 29 p1) := fun k h hk hI => i_turn nN_ok (by omega) hI p1
theorem s_stopped (p1 : Int32) : St1 512 Inv (fun h => fX11_stopped nN h 0 p1) (fun h => fX12_stopped nN h 29 p1) := fun k h hk hI => i_stopped nN_ok hI p1
theorem s_free (p1 : Int32) : St1 512 Inv (fun h => fX11_free nN h 0 p1) (fun h => fX12_free nN h 29 p1) := fun k h hk hI => i_free nN_ok (by omega) hI p1
theorem s_snap (p1 : Int32) : St1 512 Inv (fun h => fX11_snap nN h 0 p1) (fun h => fX12_snap nN h 29 p1) := fun k h hk hI => i_snap nN_ok (by omega) hI p1
theorem s_hold (p1 : Int32) : St1 512 Inv (fun h => fX11_hold nN h 0 p1) (fun h => fX12_hold nN h 29 p1) := fun k h hk hI => i_hold nN_ok hI p1
theorem s_scene (p1 p2 p3 : Int32) : St1 512 Inv (fun h => fX11_scene nN h 0 p1 p2 p3) (fun h => fX12_scene nN h 29 p1 p2 p3) := fun k h hk hI => i_scene nN_ok hI p1 p2 p3
theorem s_change (p1 p2 : Int32) : St1 512 Inv (fun h => fX11_change nN h 0 p1 p2) (fun h => fX12_change nN h 29 p1 p2) := fun k h hk hI => i_change nN_ok (by omega) hI p1 p2
theorem s_told (p1 p2 : Int32) : St1 512 Inv (fun h => fX11_told nN h 0 p1 p2) (fun h => fX12_told nN h 29 p1 p2) := fun k h hk hI => i_told nN_ok hI p1 p2
theorem s_work (p1 : Int32) : St1 512 Inv (fun h => fX11_work nN h 0 p1) (fun h => fX12_work nN h 29 p1) := fun k h hk hI => i_work nN_ok hI p1
theorem s_men (p1 : Int32) : St0 512 Inv (fun h => fX11_men nN h 0 p1) (fun h => fX12_men nN h 29 p1) := fun k h hk hI => i_men nN_ok hI p1
theorem s_feed (p1 p2 : Int32) : St1 512 Inv (fun h => fX11_feed nN h 0 p1 p2) (fun h => fX12_feed nN h 29 p1 p2) := fun k h hk hI => i_feed nN_ok hI p1 p2
theorem s_play : St1 512 Inv (fun h => fX11_play nN h 0 ) (fun h => fX12_play nN h 29 ) := fun k h hk hI => i_play nN_ok (by omega) hI 
theorem s_back : St1 512 Inv (fun h => fX11_back nN h 0 ) (fun h => fX12_back nN h 29 ) := fun k h hk hI => i_back nN_ok hI 
theorem s_candle (p1 : Int32) : St1 512 Inv (fun h => fX11_candle nN h 0 p1) (fun h => fX12_candle nN h 29 p1) := fun k h hk hI => i_candle nN_ok hI p1
theorem s_minutes (p1 : Int32) : St1 512 Inv (fun h => fX11_minutes nN h 0 p1) (fun h => fX12_minutes nN h 29 p1) := fun k h hk hI => i_minutes nN_ok hI p1
theorem s_trim (p1 : Int32) : St1 512 Inv (fun h => fX11_trim nN h 0 p1) (fun h => fX12_trim nN h 29 p1) := fun k h hk hI => i_trim nN_ok hI p1
theorem s_light (p1 : Int32) : St1 512 Inv (fun h => fX11_light nN h 0 p1) (fun h => fX12_light nN h 29 p1) := fun k h hk hI => i_light nN_ok hI p1
theorem s_flat (p1 p2 : Int32) : St1 512 Inv (fun h => fX11_flat nN h 0 p1 p2) (fun h => fX12_flat nN h 29 p1 p2) := fun k h hk hI => i_flat nN_ok hI p1 p2
theorem s_want (p1 p2 : Int32) : St1 512 Inv (fun h => fX11_want nN h 0 p1 p2) (fun h => fX12_want nN h 29 p1 p2) := fun k h hk hI => i_want nN_ok hI p1 p2
theorem s_paint : St1 512 Inv (fun h => fX11_paint nN h 0 ) (fun h => fX12_paint nN h 29 ) := fun k h hk hI => i_paint nN_ok hI 
theorem s_given (p1 : Int32) : St1 512 Inv (fun h => fX11_given nN h 0 p1) (fun h => fX12_given nN h 29 p1) := fun k h hk hI => i_given nN_ok hI p1
theorem s_count (p1 : Int32) : St1 512 Inv (fun h => fX11_count nN h 0 p1) (fun h => fX12_count nN h 29 p1) := fun k h hk hI => i_count nN_ok hI p1
theorem law_p34 : LawOK nN 512 Inv := ⟨fun k h hI => hI.up, (fun p1 p2 p3 p4 => st0_of (s_thing p1 p2 p3 p4)), (fun p1 p2 => st0_of (s_ofThing p1 p2)), (fun p1 => st0_of (s_on p1)), (fun p1 => st0_of (s_drum p1)), (fun p1 p2 p3 => st0_of (s_rope p1 p2 p3)), (fun p1 p2 => st0_of (s_ofRope p1 p2)), (fun p1 p2 => st0_of (s_tie p1 p2)), (fun p1 => st0_of (s_untie p1)), (fun p1 p2 => st0_of (s_weight p1 p2)), (fun p1 => st0_of (s_bound p1)), (st0_of s_pull), (fun p1 => st0_of (s_turn p1)), (fun p1 => st0_of (s_stopped p1)), (fun p1 => st0_of (s_free p1)), (fun p1 => st0_of (s_snap p1)), (fun p1 => st0_of (s_hold p1)), (fun p1 p2 p3 => st0_of (s_scene p1 p2 p3)), (fun p1 p2 => st0_of (s_change p1 p2)), (fun p1 p2 => st0_of (s_told p1 p2)), (fun p1 => st0_of (s_work p1)), s_men, (fun p1 p2 => st0_of (s_feed p1 p2)), (st0_of s_play), (st0_of s_back), (fun p1 => st0_of (s_candle p1)), (fun p1 => st0_of (s_minutes p1)), (fun p1 => st0_of (s_trim p1)), (fun p1 => st0_of (s_light p1)), (fun p1 p2 => st0_of (s_flat p1 p2)), (fun p1 p2 => st0_of (s_want p1 p2)), (st0_of s_paint), (fun p1 => st0_of (s_given p1)), s_count⟩
